/-! THE STATE: ints, arrays, longs, each by its cell; THE WORLD that it makes; THE JUDGEMENT V; its rows -/
abbrev Sg : Type := (Nat → Nat → Int32) × (Nat → Nat → Int32) × (Nat → Nat → Int64)
def gF (σ : Sg) (k j : Nat) : Int32 := σ.1 k j
def gA (σ : Sg) (k i : Nat) : Int32 := σ.2.1 k i
def gL (σ : Sg) (k j : Nat) : Int64 := σ.2.2 k j
def sF (σ : Sg) (k j : Nat) (v : Int32) : Sg := (fun a b => if a = k ∧ b = j then v else σ.1 a b, σ.2)
def sA (σ : Sg) (k i : Nat) (v : Int32) : Sg := (σ.1, fun a b => if a = k ∧ b = i then v else σ.2.1 a b, σ.2.2)
def sL (σ : Sg) (k j : Nat) (v : Int64) : Sg := (σ.1, σ.2.1, fun a b => if a = k ∧ b = j then v else σ.2.2 a b)
def jv_fv (ad : Nat → Nat) (σ : Sg) (c k j : Nat) : Value := if jv_ty c j = 0 then .int (gF σ k j) else if jv_ty c j = 1 then .ref (ad (jv_rf k j)) else .long (gL σ k j)
def jv_fs (ad : Nat → Nat) (σ : Sg) (c k : Nat) : List Value := (List.range (jv_nf c)).map (jv_fv ad σ c k)
def jv_ce (ad : Nat → Nat) (cI cB : ClassId) (σ : Sg) (k : Nat) : va_E := if jv_cls k = 100 then .inl (cI, jv_ln k, .inl (σ.2.1 k)) else if jv_cls k = 101 then .inl (cB, jv_ln k, .inl (σ.2.1 k)) else .inr (jv_cls k, jv_fs ad σ (jv_cls k) k)
def wl (ad : Nat → Nat) (cI cB : ClassId) (σ : Sg) : va_W := (List.range 93).map (fun k => (ad k, jv_ce ad cI cB σ k))
theorem wl_get {ad : Nat → Nat} {cI cB : ClassId} {σ : Sg} {k : Nat} (hk : k < 93) : (wl ad cI cB σ)[k]? = some (ad k, jv_ce ad cI cB σ k) := by
  simp [wl, hk]
theorem wl_out {ad : Nat → Nat} {cI cB : ClassId} {σ : Sg} {k : Nat} {q : Nat × va_E} (h : (wl ad cI cB σ)[k]? = some q) : k < 93 ∧ q = (ad k, jv_ce ad cI cB σ k) := by
  have hk : k < 93 := by
    have h1 := (List.getElem?_eq_some_iff.mp h).1
    simpa [wl] using h1
  rw [wl_get hk] at h
  exact ⟨hk, (Option.some.inj h).symm⟩
theorem wl_set {ad : Nat → Nat} {cI cB : ClassId} {σ σ' : Sg} {k : Nat} {e : va_E} (hk : k < 93) (h1 : jv_ce ad cI cB σ' k = e) (h2 : ∀ j, j < 93 → j ≠ k → jv_ce ad cI cB σ' j = jv_ce ad cI cB σ j) : (wl ad cI cB σ).set k (ad k, e) = wl ad cI cB σ' := by
  apply List.ext_getElem?
  intro j
  by_cases hj : j < 93
  · rw [wl_get hj, List.getElem?_set]
    by_cases e1 : k = j
    · subst e1
      simp [wl, hk, h1]
    · rw [if_neg e1, wl_get hj, h2 j hj (Ne.symm e1)]
  · rw [List.getElem?_eq_none (by simp [wl]; omega), List.getElem?_eq_none (by simp [wl]; omega)]
theorem jv_ceO {ad : Nat → Nat} {cI cB : ClassId} {σ : Sg} {k c : Nat} (hc : jv_cls k = c) (h : c < 11) : jv_ce ad cI cB σ k = .inr (c, jv_fs ad σ c k) := by
  subst hc
  rw [jv_ce, if_neg (by omega), if_neg (by omega)]
theorem jv_ceI {ad : Nat → Nat} {cI cB : ClassId} {σ : Sg} {k : Nat} (hc : jv_cls k = 100) : jv_ce ad cI cB σ k = .inl (cI, jv_ln k, .inl (σ.2.1 k)) := by
  rw [jv_ce, if_pos hc]
theorem jv_ceB {ad : Nat → Nat} {cI cB : ClassId} {σ : Sg} {k : Nat} (hc : jv_cls k = 101) : jv_ce ad cI cB σ k = .inl (cB, jv_ln k, .inl (σ.2.1 k)) := by
  rw [jv_ce, if_neg (by omega), if_pos hc]
theorem jv_fsAt {ad : Nat → Nat} {σ : Sg} {c k j : Nat} (hj : j < jv_nf c) : (jv_fs ad σ c k)[j]? = some (jv_fv ad σ c k j) := by
  simp [jv_fs, hj]
theorem jv_fsSet {ad : Nat → Nat} {σ σ' : Sg} {c k j : Nat} {v : Value} (hj : j < jv_nf c) (h1 : jv_fv ad σ' c k j = v) (h2 : ∀ i, i ≠ j → jv_fv ad σ' c k i = jv_fv ad σ c k i) : (jv_fs ad σ c k).set j v = jv_fs ad σ' c k := by
  apply List.ext_getElem?
  intro i
  by_cases hi : i < jv_nf c
  · rw [jv_fsAt hi, List.getElem?_set]
    by_cases e1 : j = i
    · subst e1
      simp [jv_fs, hj, h1]
    · rw [if_neg e1, jv_fsAt hi, h2 i (Ne.symm e1)]
  · rw [List.getElem?_eq_none (by simp [jv_fs]; omega), List.getElem?_eq_none (by simp [jv_fs]; omega)]
theorem jv_ceOther {ad : Nat → Nat} {cI cB : ClassId} {σ σ' : Sg} {i : Nat} (h1 : ∀ j, gF σ' i j = gF σ i j) (h2 : σ'.2.1 i = σ.2.1 i) (h3 : ∀ j, gL σ' i j = gL σ i j) : jv_ce ad cI cB σ' i = jv_ce ad cI cB σ i := by
  have e : jv_fs ad σ' (jv_cls i) i = jv_fs ad σ (jv_cls i) i := by
    have e0 : jv_fv ad σ' (jv_cls i) i = jv_fv ad σ (jv_cls i) i := by
      funext j
      simp only [jv_fv, h1, h3]
    rw [jv_fs, jv_fs, e0]
  rw [jv_ce, jv_ce, h2, e]
/-- which cells a method may change -/
def Aw (ad : Nat → Nat) (sz : Nat) : Nat → Prop := fun q => (∃ k, k < 93 ∧ q = ad k) ∨ sz ≤ q
/-- what lies outside: the one String constant, a static, the links to private members of nest mates -/
def Sx (ad : Nat → Nat) (B : Nat → Prop) (U : State) : Prop :=
  (∀ (a : String) (i : Nat) (x : MethodName) (h : String), Cond.methodLinkNest a i x h ∈ lw_tbl → va_Nw (.methodLinkNest a i x h) U) ∧ vk_S 1 [5] [[99, 109, 117, 111, 97]] (fun _ => ad 1000) (fun _ => ad 1001) B U U.heap ∧ vk_R "MistletoeCourt$Reader" 54 "cmuoa" (ad 1000) U ∧ va_Z "java/lang/String" "COMPACT_STRINGS" "Z" (.int 1) B U U.heap
theorem Sx.calling {ad : Nat → Nat} {B : Nat → Prop} {U : State} (g : JFrame) (mk : MethodId) (a : Array Value) (h : Sx ad B U) : Sx ad B (U.calling g mk a) :=
  ⟨fun a i x hh hm => va_Nw.same rfl rfl (h.1 a i x hh hm), vk_S.moved (u := U) (U := U.calling g mk a) (Vm.Alike.refl U.vm) h.2.1, vk_R.same (u := U) (U := U.calling g mk a) rfl h.2.2.1, va_Z.moved (u := U) (U := U.calling g mk a) (Vm.Alike.refl U.vm) h.2.2.2⟩
theorem Sx.go {ad : Nat → Nat} {A B : Nat → Prop} {s U : State} {H : Heap} {locs : List Loc} (h : Sx ad A s) (hS : va_S A s.heap H locs) (hU : U.heap = H) (hW : s.WarmedH U.vm) (hAB : ∀ q, B q → A q) : Sx ad B U := by
  refine ⟨fun a i x hh hm => va_Nw.warmM hW (h.1 a i x hh hm), ?_, h.2.2.1.warm hW, ?_⟩
  · rw [hU]
    exact ((h.2.1.kept hS.2.1).narrow hAB).moved hW.alike
  · rw [hU]
    exact ((h.2.2.2.kept hS.2.1).narrow hAB).moved hW.alike
/-- a method's start -/
def Pre (D : va_G) (ad : Nat → Nat) (cI cB : ClassId) (ws : va_W) (sz : Nat) (av : List Value) : Array Value → State → Prop :=
  va_Pc av (fun U => U.heap.size = sz ∧ va_P D classes ws U.heap ∧ va_K D classes [(cI, .int), (cB, .byte)] U ∧ va_D (fun _ => True) ws ∧ Sx ad (Aw ad sz) U)
/-- a method's end -/
def Pst (D : va_G) (ws : va_W) (A : Nat → Prop) (rv : Option Value) : Array Value → State → Outcome → State → Prop :=
  fun _ st oc t => (oc = .returned rv ∧ va_P D classes ws t.heap ∧ va_D A ws) ∧ va_F A st t
theorem Pre.blind {D : va_G} {ad : Nat → Nat} {cI cB : ClassId} {ws : va_W} {sz : Nat} {av : List Value} : FrameBlind (Pre D ad cI cB ws sz av) :=
  fun a U g mk q => ⟨q.1, q.2.1, q.2.2.1, va_K.moved (u := U) (U := U.calling g mk a) (Vm.Alike.refl U.vm) q.2.2.2.1, q.2.2.2.2.1, q.2.2.2.2.2.calling g mk a⟩
/-- the contract of a method: from this state, with these arguments, this answer and that state -/
def Evc (y : MethodName) (b : ByteArray) (mL : Nat) (ret : Option FieldType) (d : Nat) (av : (Nat → Nat) → List Value) (σ σ' : Sg) (rv : (Nat → Nat) → Option Value) : Prop :=
  ∀ (l : Launch) (D : va_G) (ad : Nat → Nat) (cI cB : ClassId) (sz : Nat), Met l y (Cond.code y b mL ret :: gtbl) { frames := d, cells := 0, slots := 0, locals := 38 * d } (Pre D ad cI cB (wl ad cI cB σ) sz (av ad)) (Pst D (wl ad cI cB σ') (Aw ad sz) (rv ad)) 0 0 (Aw ad sz)
/-- what a method's body knows -/
def Cx (p : Program) (R : Room) (s : State) (m : MethodId) (args : Array Value) (meth : Method) (c : Code) (own : String) (cc : ByteArray) (nL d : Nat) (D : va_G) (ad : Nat → Nat) (cI cB : ClassId) (A : Nat → Prop) (cells slots : Nat) : Prop :=
  p.tables.exec = Jvm.exec ∧ c.code = cc ∧ c.maxLocals = nL ∧ s.vm.findClass own = some m.cls ∧ (∀ w ∈ gtbl, w.before args s = true) ∧ va_K D classes [(cI, .int), (cB, .byte)] s ∧ (∀ q, s.heap.size ≤ q → A q) ∧ Sx ad A s ∧ (d ≤ R.frames ∧ 38 * d ≤ R.locals ∧ cells ≤ R.cells ∧ slots ≤ R.slots) ∧ meth.locks = false
def V (p : Program) (l : Launch) (e : Env) (R : Room) (s : State) (m : MethodId) (args : Array Value) (below : List Frame) (meth : Method) (c : Code) (nL : Nat) (D : va_G) (A : Nat → Prop) (cells slots : Nat) (Q : State → Prop) (ws : va_W) (pc : Nat) (lv : List (Nat × Value)) (st : List Value) : Prop :=
  ∀ (H : Heap) (locs : List Loc) (ls : Array Slot), va_P D classes ws H → va_D A ws → va_S A s.heap H locs → lv_has ls nL lv → W p l e R s m args below meth c H locs cells slots Q (F0 m pc ls st)
/-- a computation that answers, and its answer is so -/
def wpO {α : Type} (x : Option α) (K : α → Prop) : Prop := ∃ a, x = some a ∧ K a
def inb (i : Int32) (n : Nat) : Bool := decide (0 ≤ i.toInt ∧ i.toInt < (n : Int))
def ix (i : Int32) : Nat := i.toNatClampNeg
def isb (v : Int32) : Bool := v == 0 || v == 1
def bindP {α β : Type} (f : Option (α × Sg)) (g : α → Sg → Option β) : Option β := match f with
  | none => none
  | some q => g q.1 q.2
def bindV {α β : Type} (f : Option α) (g : α → Option β) : Option β := match f with
  | none => none
  | some q => g q
theorem wp_P {α β : Type} {f : Option (α × Sg)} {g : α → Sg → Option β} {K : β → Prop} (h : wpO (bindP f g) K) : ∃ r σ, f = some (r, σ) ∧ wpO (g r σ) K := by
  cases f with
  | none => obtain ⟨a, h1, -⟩ := h; cases h1
  | some q => exact ⟨q.1, q.2, rfl, h⟩
theorem wp_V {α β : Type} {f : Option α} {g : α → Option β} {K : β → Prop} (h : wpO (bindV f g) K) : ∃ r, f = some r ∧ wpO (g r) K := by
  cases f with
  | none => obtain ⟨a, h1, -⟩ := h; cases h1
  | some q => exact ⟨q, rfl, h⟩
theorem wp_none {β : Type} {K : β → Prop} (h : wpO (none : Option β) K) : False := by
  obtain ⟨a, h1, -⟩ := h
  cases h1
theorem wp_if {β : Type} {b : Bool} {x : Option β} {K : β → Prop} (h : wpO (if b = true then x else none) K) : b = true ∧ wpO x K := by
  by_cases hb : b = true
  · rw [if_pos hb] at h; exact ⟨hb, h⟩
  · rw [if_neg hb] at h; exact (wp_none h).elim
theorem wp_nz {β : Type} {q : Prop} [Decidable q] {x : Option β} {K : β → Prop} (h : wpO (if q then none else x) K) : ¬ q ∧ wpO x K := by
  by_cases hb : q
  · rw [if_pos hb] at h; exact (wp_none h).elim
  · rw [if_neg hb] at h; exact ⟨hb, h⟩
theorem wp_some {β : Type} {x : β} {K : β → Prop} (h : wpO (some x) K) : K x := by
  obtain ⟨a, h1, h2⟩ := h
  cases h1
  exact h2
theorem inb_vp {i : Int32} {n : Nat} (h : inb i n = true) : vp_in i n := vp_in_iff.mpr (of_decide_eq_true h)
theorem isb_nar {v : Int32} (h : isb v = true) : narrow .boolean (.int v) = .int v ∧ fits .boolean (.int v) = true := by
  simp only [isb, Bool.or_eq_true, beq_iff_eq] at h
  rcases h with rfl | rfl <;> exact ⟨by decide +kernel, by decide +kernel⟩
theorem sw_ne {x v : Int32} (h : ¬ x = v) (z : Int) (hv : v.toInt = z) : x.toInt ≠ z := fun e => h (Int32.toInt_inj.mp (e.trans hv.symm))
section VROWS
variable {p : Program} {l : Launch} {e : Env} {R : Room} {s : State} {m : MethodId} {args : Array Value} {below : List Frame} {meth : Method} {c : Code} {own : String} {cc : ByteArray} {nL d : Nat} {D : va_G} {ad : Nat → Nat} {cI cB : ClassId} {A : Nat → Prop} {cells slots : Nat} {Q : State → Prop} {ws : va_W} {σ : Sg} {pc : Nat} {lv lv' : List (Nat × Value)} {st : List Value}
theorem V_sub (ks : List Nat) (h : lv_pick lv ks = lv') (k : V p l e R s m args below meth c nL D A cells slots Q ws pc lv' st) : V p l e R s m args below meth c nL D A cells slots Q ws pc lv st :=
  fun H locs ls hP hD hS hl => k H locs ls hP hD hS (lv_sub hl ks h)
theorem V_iconst (X : Cx p R s m args meth c own cc nL d D ad cI cB A cells slots) {n : Int} {v : Int32} (hd : decode cc pc = .ok (.iconst n, 1)) (hv : Int32.ofInt n = v) (k : V p l e R s m args below meth c nL D A cells slots Q ws (pc + 1) lv (.int v :: st)) : V p l e R s m args below meth c nL D A cells slots Q ws pc lv st :=
  fun H locs ls hP hD hS hl => lv_iconst X.1 X.2.1 hd hv (k H locs ls hP hD hS hl)
theorem V_bipush (X : Cx p R s m args meth c own cc nL d D ad cI cB A cells slots) {n : Int} {v : Int32} (hd : decode cc pc = .ok (.bipush n, 2)) (hv : (Int8.ofInt n).toInt32 = v) (k : V p l e R s m args below meth c nL D A cells slots Q ws (pc + 2) lv (.int v :: st)) : V p l e R s m args below meth c nL D A cells slots Q ws pc lv st :=
  fun H locs ls hP hD hS hl => lv_bipush X.1 X.2.1 hd hv (k H locs ls hP hD hS hl)
theorem V_sipush (X : Cx p R s m args meth c own cc nL d D ad cI cB A cells slots) {n : Int} {v : Int32} (hd : decode cc pc = .ok (.sipush n, 3)) (hv : (Int16.ofInt n).toInt32 = v) (k : V p l e R s m args below meth c nL D A cells slots Q ws (pc + 3) lv (.int v :: st)) : V p l e R s m args below meth c nL D A cells slots Q ws pc lv st :=
  fun H locs ls hP hD hS hl => lv_sipush X.1 X.2.1 hd hv (k H locs ls hP hD hS hl)
theorem V_ldc (X : Cx p R s m args meth c own cc nL d D ad cI cB A cells slots) {i : Nat} {v : Int32} (hd : decode cc pc = .ok (.ldc i, 2)) (hw : Cond.constant own i v ∈ gtbl) (k : V p l e R s m args below meth c nL D A cells slots Q ws (pc + 2) lv (.int v :: st)) : V p l e R s m args below meth c nL D A cells slots Q ws pc lv st :=
  fun H locs ls hP hD hS hl => lv_ldc X.1 X.2.1 X.2.2.2.1 (X.2.2.2.2.1 _ hw) hd (k H locs ls hP hD hS hl)
theorem V_ldcw (X : Cx p R s m args meth c own cc nL d D ad cI cB A cells slots) {i : Nat} {v : Int32} (hd : decode cc pc = .ok (.ldc_w i, 3)) (hw : Cond.constant own i v ∈ gtbl) (k : V p l e R s m args below meth c nL D A cells slots Q ws (pc + 3) lv (.int v :: st)) : V p l e R s m args below meth c nL D A cells slots Q ws pc lv st :=
  fun H locs ls hP hD hS hl => lv_ldcw X.1 X.2.1 X.2.2.2.1 (X.2.2.2.2.1 _ hw) hd (k H locs ls hP hD hS hl)
theorem V_ldc2 (X : Cx p R s m args meth c own cc nL d D ad cI cB A cells slots) {i : Nat} {v : Int64} (hd : decode cc pc = .ok (.ldc2_w i, 3)) (hw : Cond.constantLong own i v ∈ gtbl) (k : V p l e R s m args below meth c nL D A cells slots Q ws (pc + 3) lv (.long v :: st)) : V p l e R s m args below meth c nL D A cells slots Q ws pc lv st :=
  fun H locs ls hP hD hS hl => lv_ldc2 X.1 X.2.1 X.2.2.2.1 (X.2.2.2.2.1 _ hw) hd (k H locs ls hP hD hS hl)
theorem V_ldcS (X : Cx p R s m args meth c "MistletoeCourt$Reader" cc nL d D ad cI cB A cells slots) (hd : decode cc pc = .ok (.ldc 54, 2)) (k : V p l e R s m args below meth c nL D A cells slots Q ws (pc + 2) lv (.ref (ad 1000) :: st)) : V p l e R s m args below meth c nL D A cells slots Q ws pc lv st :=
  fun H locs ls hP hD hS hl => va_ldcS X.1 X.2.1 X.2.2.2.1 X.2.2.2.2.2.2.2.1.2.2.1 hd (k H locs ls hP hD hS hl)
theorem V_iload_n (X : Cx p R s m args meth c own cc nL d D ad cI cB A cells slots) {i : Fin 4} (q : Nat) {x : Int32} (hd : decode cc pc = .ok (.iload_n i, 1)) (hq : lv[q]? = some ((i : Nat), .int x)) (k : V p l e R s m args below meth c nL D A cells slots Q ws (pc + 1) lv (.int x :: st)) : V p l e R s m args below meth c nL D A cells slots Q ws pc lv st :=
  fun H locs ls hP hD hS hl => lv_iload_n X.1 X.2.1 hd rfl (lv_at hl q hq) (k H locs ls hP hD hS hl)
theorem V_iload (X : Cx p R s m args meth c own cc nL d D ad cI cB A cells slots) {i : Nat} (q : Nat) {x : Int32} (hd : decode cc pc = .ok (.iload i, 2)) (hq : lv[q]? = some (i, .int x)) (k : V p l e R s m args below meth c nL D A cells slots Q ws (pc + 2) lv (.int x :: st)) : V p l e R s m args below meth c nL D A cells slots Q ws pc lv st :=
  fun H locs ls hP hD hS hl => lv_iload X.1 X.2.1 hd (lv_at hl q hq) (k H locs ls hP hD hS hl)
theorem V_lload_n (X : Cx p R s m args meth c own cc nL d D ad cI cB A cells slots) {i : Fin 4} (q : Nat) {x : Int64} (hd : decode cc pc = .ok (.lload_n i, 1)) (hq : lv[q]? = some ((i : Nat), .long x)) (k : V p l e R s m args below meth c nL D A cells slots Q ws (pc + 1) lv (.long x :: st)) : V p l e R s m args below meth c nL D A cells slots Q ws pc lv st :=
  fun H locs ls hP hD hS hl => lv_lload_n X.1 X.2.1 hd rfl (lv_at hl q hq) (k H locs ls hP hD hS hl)
theorem V_aload_n (X : Cx p R s m args meth c own cc nL d D ad cI cB A cells slots) {i : Fin 4} (q : Nat) {x : Nat} (hd : decode cc pc = .ok (.aload_n i, 1)) (hq : lv[q]? = some ((i : Nat), .ref x)) (k : V p l e R s m args below meth c nL D A cells slots Q ws (pc + 1) lv (.ref x :: st)) : V p l e R s m args below meth c nL D A cells slots Q ws pc lv st :=
  fun H locs ls hP hD hS hl => lv_aload_n X.1 X.2.1 hd rfl (lv_at hl q hq) (k H locs ls hP hD hS hl)
theorem V_istore_n (X : Cx p R s m args meth c own cc nL d D ad cI cB A cells slots) {i : Fin 4} {x : Int32} (lv' : List (Nat × Value)) (hd : decode cc pc = .ok (.istore_n i, 1)) (hn : (i : Nat) < nL) (hl' : ((i : Nat), Value.int x) :: lv.filter (fun q => !(q.1 == (i : Nat)) && !(q.1 + 1 == (i : Nat) && q.2.category == 2)) = lv') (k : V p l e R s m args below meth c nL D A cells slots Q ws (pc + 1) lv' st) : V p l e R s m args below meth c nL D A cells slots Q ws pc lv (.int x :: st) :=
  fun H locs ls hP hD hS hl => lv_istore_n X.1 X.2.1 hd rfl hl hn hl' (fun ls hl => k H locs ls hP hD hS hl)
theorem V_istore (X : Cx p R s m args meth c own cc nL d D ad cI cB A cells slots) {i : Nat} {x : Int32} (lv' : List (Nat × Value)) (hd : decode cc pc = .ok (.istore i, 2)) (hn : i < nL) (hl' : (i, Value.int x) :: lv.filter (fun q => !(q.1 == i) && !(q.1 + 1 == i && q.2.category == 2)) = lv') (k : V p l e R s m args below meth c nL D A cells slots Q ws (pc + 2) lv' st) : V p l e R s m args below meth c nL D A cells slots Q ws pc lv (.int x :: st) :=
  fun H locs ls hP hD hS hl => lv_istore X.1 X.2.1 hd hl hn hl' (fun ls hl => k H locs ls hP hD hS hl)
theorem V_lstore_n (X : Cx p R s m args meth c own cc nL d D ad cI cB A cells slots) {i : Fin 4} {x : Int64} (lv' : List (Nat × Value)) (hd : decode cc pc = .ok (.lstore_n i, 1)) (hn : (i : Nat) + 1 < nL) (hl' : ((i : Nat), Value.long x) :: lv.filter (fun q => !(q.1 == (i : Nat)) && (!(q.1 == (i : Nat) + 1) && !(q.1 + 1 == (i : Nat) && q.2.category == 2))) = lv') (k : V p l e R s m args below meth c nL D A cells slots Q ws (pc + 1) lv' st) : V p l e R s m args below meth c nL D A cells slots Q ws pc lv (.long x :: st) :=
  fun H locs ls hP hD hS hl => lv_lstore_n X.1 X.2.1 hd rfl hl hn hl' (fun ls hl => k H locs ls hP hD hS hl)
theorem V_astore_n (X : Cx p R s m args meth c own cc nL d D ad cI cB A cells slots) {i : Fin 4} {x : Nat} (lv' : List (Nat × Value)) (hd : decode cc pc = .ok (.astore_n i, 1)) (hn : (i : Nat) < nL) (hl' : ((i : Nat), Value.ref x) :: lv.filter (fun q => !(q.1 == (i : Nat)) && !(q.1 + 1 == (i : Nat) && q.2.category == 2)) = lv') (k : V p l e R s m args below meth c nL D A cells slots Q ws (pc + 1) lv' st) : V p l e R s m args below meth c nL D A cells slots Q ws pc lv (.ref x :: st) :=
  fun H locs ls hP hD hS hl => lv_astore_n X.1 X.2.1 hd rfl hl hn hl' (fun ls hl => k H locs ls hP hD hS hl)
theorem V_iinc (X : Cx p R s m args meth c own cc nL d D ad cI cB A cells slots) {i : Nat} {n : Int} {x : Int32} (q : Nat) (v : Int32) (lv' : List (Nat × Value)) (hd : decode cc pc = .ok (.iinc i n, 3)) (hq : lv[q]? = some (i, .int x)) (hv : x + Int32.ofInt n = v) (hn : i < nL) (hl' : (i, Value.int v) :: lv.filter (fun q => !(q.1 == i) && !(q.1 + 1 == i && q.2.category == 2)) = lv') (k : V p l e R s m args below meth c nL D A cells slots Q ws (pc + 3) lv' st) : V p l e R s m args below meth c nL D A cells slots Q ws pc lv st :=
  fun H locs ls hP hD hS hl => lv_iinc X.1 X.2.1 hd hl hq hv hn hl' (fun ls hl => k H locs ls hP hD hS hl)
theorem V_iadd (X : Cx p R s m args meth c own cc nL d D ad cI cB A cells slots) {x y : Int32} (hd : decode cc pc = .ok (.iadd, 1)) (k : V p l e R s m args below meth c nL D A cells slots Q ws (pc + 1) lv (.int (x + y) :: st)) : V p l e R s m args below meth c nL D A cells slots Q ws pc lv (.int y :: .int x :: st) :=
  fun H locs ls hP hD hS hl => lv_iadd X.1 X.2.1 hd (k H locs ls hP hD hS hl)
theorem V_isub (X : Cx p R s m args meth c own cc nL d D ad cI cB A cells slots) {x y : Int32} (hd : decode cc pc = .ok (.isub, 1)) (k : V p l e R s m args below meth c nL D A cells slots Q ws (pc + 1) lv (.int (x - y) :: st)) : V p l e R s m args below meth c nL D A cells slots Q ws pc lv (.int y :: .int x :: st) :=
  fun H locs ls hP hD hS hl => lv_isub X.1 X.2.1 hd (k H locs ls hP hD hS hl)
theorem V_imul (X : Cx p R s m args meth c own cc nL d D ad cI cB A cells slots) {x y : Int32} (hd : decode cc pc = .ok (.imul, 1)) (k : V p l e R s m args below meth c nL D A cells slots Q ws (pc + 1) lv (.int (x * y) :: st)) : V p l e R s m args below meth c nL D A cells slots Q ws pc lv (.int y :: .int x :: st) :=
  fun H locs ls hP hD hS hl => lv_imul X.1 X.2.1 hd (k H locs ls hP hD hS hl)
theorem V_iand (X : Cx p R s m args meth c own cc nL d D ad cI cB A cells slots) {x y : Int32} (hd : decode cc pc = .ok (.iand, 1)) (k : V p l e R s m args below meth c nL D A cells slots Q ws (pc + 1) lv (.int (x &&& y) :: st)) : V p l e R s m args below meth c nL D A cells slots Q ws pc lv (.int y :: .int x :: st) :=
  fun H locs ls hP hD hS hl => lv_iand X.1 X.2.1 hd (k H locs ls hP hD hS hl)
theorem V_ior (X : Cx p R s m args meth c own cc nL d D ad cI cB A cells slots) {x y : Int32} (hd : decode cc pc = .ok (.ior, 1)) (k : V p l e R s m args below meth c nL D A cells slots Q ws (pc + 1) lv (.int (x ||| y) :: st)) : V p l e R s m args below meth c nL D A cells slots Q ws pc lv (.int y :: .int x :: st) :=
  fun H locs ls hP hD hS hl => lv_ior X.1 X.2.1 hd (k H locs ls hP hD hS hl)
theorem V_ixor (X : Cx p R s m args meth c own cc nL d D ad cI cB A cells slots) {x y : Int32} (hd : decode cc pc = .ok (.ixor, 1)) (k : V p l e R s m args below meth c nL D A cells slots Q ws (pc + 1) lv (.int (x ^^^ y) :: st)) : V p l e R s m args below meth c nL D A cells slots Q ws pc lv (.int y :: .int x :: st) :=
  fun H locs ls hP hD hS hl => lv_ixor X.1 X.2.1 hd (k H locs ls hP hD hS hl)
theorem V_ishl (X : Cx p R s m args meth c own cc nL d D ad cI cB A cells slots) {x y : Int32} (hd : decode cc pc = .ok (.ishl, 1)) (k : V p l e R s m args below meth c nL D A cells slots Q ws (pc + 1) lv (.int (x <<< (y &&& 31)) :: st)) : V p l e R s m args below meth c nL D A cells slots Q ws pc lv (.int y :: .int x :: st) :=
  fun H locs ls hP hD hS hl => lv_ishl X.1 X.2.1 hd (k H locs ls hP hD hS hl)
theorem V_ishr (X : Cx p R s m args meth c own cc nL d D ad cI cB A cells slots) {x y : Int32} (hd : decode cc pc = .ok (.ishr, 1)) (k : V p l e R s m args below meth c nL D A cells slots Q ws (pc + 1) lv (.int (x >>> (y &&& 31)) :: st)) : V p l e R s m args below meth c nL D A cells slots Q ws pc lv (.int y :: .int x :: st) :=
  fun H locs ls hP hD hS hl => lv_ishr X.1 X.2.1 hd (k H locs ls hP hD hS hl)
theorem V_idiv (X : Cx p R s m args meth c own cc nL d D ad cI cB A cells slots) {x y : Int32} (hd : decode cc pc = .ok (.idiv, 1)) (hne : ¬ y = 0) (k : V p l e R s m args below meth c nL D A cells slots Q ws (pc + 1) lv (.int (x / y) :: st)) : V p l e R s m args below meth c nL D A cells slots Q ws pc lv (.int y :: .int x :: st) :=
  fun H locs ls hP hD hS hl => lv_idiv X.1 X.2.1 hd hne (k H locs ls hP hD hS hl)
theorem V_irem (X : Cx p R s m args meth c own cc nL d D ad cI cB A cells slots) {x y : Int32} (hd : decode cc pc = .ok (.irem, 1)) (hne : ¬ y = 0) (k : V p l e R s m args below meth c nL D A cells slots Q ws (pc + 1) lv (.int (x - x / y * y) :: st)) : V p l e R s m args below meth c nL D A cells slots Q ws pc lv (.int y :: .int x :: st) :=
  fun H locs ls hP hD hS hl => lv_irem X.1 X.2.1 hd hne (k H locs ls hP hD hS hl)
theorem V_ladd (X : Cx p R s m args meth c own cc nL d D ad cI cB A cells slots) {x y : Int64} (hd : decode cc pc = .ok (.ladd, 1)) (k : V p l e R s m args below meth c nL D A cells slots Q ws (pc + 1) lv (.long (x + y) :: st)) : V p l e R s m args below meth c nL D A cells slots Q ws pc lv (.long y :: .long x :: st) :=
  fun H locs ls hP hD hS hl => lv_ladd X.1 X.2.1 hd (k H locs ls hP hD hS hl)
theorem V_lmul (X : Cx p R s m args meth c own cc nL d D ad cI cB A cells slots) {x y : Int64} (hd : decode cc pc = .ok (.lmul, 1)) (k : V p l e R s m args below meth c nL D A cells slots Q ws (pc + 1) lv (.long (x * y) :: st)) : V p l e R s m args below meth c nL D A cells slots Q ws pc lv (.long y :: .long x :: st) :=
  fun H locs ls hP hD hS hl => lv_lmul X.1 X.2.1 hd (k H locs ls hP hD hS hl)
theorem V_land (X : Cx p R s m args meth c own cc nL d D ad cI cB A cells slots) {x y : Int64} (hd : decode cc pc = .ok (.land, 1)) (k : V p l e R s m args below meth c nL D A cells slots Q ws (pc + 1) lv (.long (x &&& y) :: st)) : V p l e R s m args below meth c nL D A cells slots Q ws pc lv (.long y :: .long x :: st) :=
  fun H locs ls hP hD hS hl => lv_land X.1 X.2.1 hd (k H locs ls hP hD hS hl)
theorem V_ldiv (X : Cx p R s m args meth c own cc nL d D ad cI cB A cells slots) {x y : Int64} (hd : decode cc pc = .ok (.ldiv, 1)) (hne : ¬ y = 0) (k : V p l e R s m args below meth c nL D A cells slots Q ws (pc + 1) lv (.long (x / y) :: st)) : V p l e R s m args below meth c nL D A cells slots Q ws pc lv (.long y :: .long x :: st) :=
  fun H locs ls hP hD hS hl => lv_ldiv X.1 X.2.1 hd hne (k H locs ls hP hD hS hl)
theorem V_lrem (X : Cx p R s m args meth c own cc nL d D ad cI cB A cells slots) {x y : Int64} (hd : decode cc pc = .ok (.lrem, 1)) (hne : ¬ y = 0) (k : V p l e R s m args below meth c nL D A cells slots Q ws (pc + 1) lv (.long (x - x / y * y) :: st)) : V p l e R s m args below meth c nL D A cells slots Q ws pc lv (.long y :: .long x :: st) :=
  fun H locs ls hP hD hS hl => lv_lrem X.1 X.2.1 hd hne (k H locs ls hP hD hS hl)
theorem V_iushr (X : Cx p R s m args meth c own cc nL d D ad cI cB A cells slots) {x y : Int32} (hd : decode cc pc = .ok (.iushr, 1)) (k : V p l e R s m args below meth c nL D A cells slots Q ws (pc + 1) lv (.int ((x.toUInt32 >>> (y.toUInt32 &&& Int32.toUInt32 31)).toInt32) :: st)) : V p l e R s m args below meth c nL D A cells slots Q ws pc lv (.int y :: .int x :: st) :=
  fun H locs ls hP hD hS hl => lv_iushr X.1 X.2.1 hd rfl (k H locs ls hP hD hS hl)
theorem V_ineg (X : Cx p R s m args meth c own cc nL d D ad cI cB A cells slots) {x : Int32} (hd : decode cc pc = .ok (.ineg, 1)) (k : V p l e R s m args below meth c nL D A cells slots Q ws (pc + 1) lv (.int (-x) :: st)) : V p l e R s m args below meth c nL D A cells slots Q ws pc lv (.int x :: st) :=
  fun H locs ls hP hD hS hl => lv_ineg X.1 X.2.1 hd (k H locs ls hP hD hS hl)
theorem V_i2l (X : Cx p R s m args meth c own cc nL d D ad cI cB A cells slots) {x : Int32} (hd : decode cc pc = .ok (.i2l, 1)) (k : V p l e R s m args below meth c nL D A cells slots Q ws (pc + 1) lv (.long (x.toInt64) :: st)) : V p l e R s m args below meth c nL D A cells slots Q ws pc lv (.int x :: st) :=
  fun H locs ls hP hD hS hl => lv_i2l X.1 X.2.1 hd rfl (k H locs ls hP hD hS hl)
theorem V_l2i (X : Cx p R s m args meth c own cc nL d D ad cI cB A cells slots) {x : Int64} (hd : decode cc pc = .ok (.l2i, 1)) (k : V p l e R s m args below meth c nL D A cells slots Q ws (pc + 1) lv (.int (x.toInt32) :: st)) : V p l e R s m args below meth c nL D A cells slots Q ws pc lv (.long x :: st) :=
  fun H locs ls hP hD hS hl => lv_l2i X.1 X.2.1 hd rfl (k H locs ls hP hD hS hl)
theorem V_i2b (X : Cx p R s m args meth c own cc nL d D ad cI cB A cells slots) {x : Int32} (hd : decode cc pc = .ok (.i2b, 1)) (k : V p l e R s m args below meth c nL D A cells slots Q ws (pc + 1) lv (.int (x.toInt8.toInt32) :: st)) : V p l e R s m args below meth c nL D A cells slots Q ws pc lv (.int x :: st) :=
  fun H locs ls hP hD hS hl => lv_i2b X.1 X.2.1 hd rfl (k H locs ls hP hD hS hl)
theorem V_i2c (X : Cx p R s m args meth c own cc nL d D ad cI cB A cells slots) {x : Int32} (hd : decode cc pc = .ok (.i2c, 1)) (k : V p l e R s m args below meth c nL D A cells slots Q ws (pc + 1) lv (.int ((x.toUInt32 % 65536).toInt32) :: st)) : V p l e R s m args below meth c nL D A cells slots Q ws pc lv (.int x :: st) :=
  fun H locs ls hP hD hS hl => lv_i2c X.1 X.2.1 hd rfl (k H locs ls hP hD hS hl)
theorem V_icmp_eq (X : Cx p R s m args meth c own cc nL d D ad cI cB A cells slots) {x y : Int32} {off : Int} (tgt : Nat) {α : Type} {A1 A2 : Option α} {K : α → Prop} (hd : decode cc pc = .ok (.if_icmp .eq off, 3)) (ht : (pc : Int) + off = (tgt : Int)) (h : wpO (if x = y then A1 else A2) K) (kt : x = y → wpO A1 K → V p l e R s m args below meth c nL D A cells slots Q ws tgt lv st) (kf : ¬ (x = y) → wpO A2 K → V p l e R s m args below meth c nL D A cells slots Q ws (pc + 3) lv st) : V p l e R s m args below meth c nL D A cells slots Q ws pc lv (.int y :: .int x :: st) :=
  fun H locs ls hP hD hS hl => lv_icmp_eq X.1 X.2.1 hd ht (fun q => kt q (by rw [if_pos q] at h; exact h) H locs ls hP hD hS hl) (fun q => kf q (by rw [if_neg q] at h; exact h) H locs ls hP hD hS hl)
theorem V_if_eq (X : Cx p R s m args meth c own cc nL d D ad cI cB A cells slots) {x : Int32} {off : Int} (tgt : Nat) {α : Type} {A1 A2 : Option α} {K : α → Prop} (hd : decode cc pc = .ok (.ifCond .eq off, 3)) (ht : (pc : Int) + off = (tgt : Int)) (h : wpO (if x = 0 then A1 else A2) K) (kt : x = 0 → wpO A1 K → V p l e R s m args below meth c nL D A cells slots Q ws tgt lv st) (kf : ¬ (x = 0) → wpO A2 K → V p l e R s m args below meth c nL D A cells slots Q ws (pc + 3) lv st) : V p l e R s m args below meth c nL D A cells slots Q ws pc lv (.int x :: st) :=
  fun H locs ls hP hD hS hl => lv_if_eq X.1 X.2.1 hd ht (fun q => kt q (by rw [if_pos q] at h; exact h) H locs ls hP hD hS hl) (fun q => kf q (by rw [if_neg q] at h; exact h) H locs ls hP hD hS hl)
theorem V_if_eqT (X : Cx p R s m args meth c own cc nL d D ad cI cB A cells slots) {x : Int32} {off : Int} (tgt : Nat) (hd : decode cc pc = .ok (.ifCond .eq off, 3)) (ht : (pc : Int) + off = (tgt : Int)) (hx : x = 0) (k : V p l e R s m args below meth c nL D A cells slots Q ws tgt lv st) : V p l e R s m args below meth c nL D A cells slots Q ws pc lv (.int x :: st) :=
  fun H locs ls hP hD hS hl => lv_if_eq X.1 X.2.1 hd ht (fun q => k H locs ls hP hD hS hl) (fun q => absurd hx q)
theorem V_if_eqF (X : Cx p R s m args meth c own cc nL d D ad cI cB A cells slots) {x : Int32} {off : Int} (hd : decode cc pc = .ok (.ifCond .eq off, 3)) (tgt : Nat) (ht : (pc : Int) + off = (tgt : Int)) (hx : ¬ (x = 0)) (k : V p l e R s m args below meth c nL D A cells slots Q ws (pc + 3) lv st) : V p l e R s m args below meth c nL D A cells slots Q ws pc lv (.int x :: st) :=
  fun H locs ls hP hD hS hl => lv_if_eq X.1 X.2.1 hd ht (fun q => absurd q hx) (fun q => k H locs ls hP hD hS hl)
theorem V_icmp_ne (X : Cx p R s m args meth c own cc nL d D ad cI cB A cells slots) {x y : Int32} {off : Int} (tgt : Nat) {α : Type} {A1 A2 : Option α} {K : α → Prop} (hd : decode cc pc = .ok (.if_icmp .ne off, 3)) (ht : (pc : Int) + off = (tgt : Int)) (h : wpO (if ¬ x = y then A1 else A2) K) (kt : ¬ x = y → wpO A1 K → V p l e R s m args below meth c nL D A cells slots Q ws tgt lv st) (kf : ¬ (¬ x = y) → wpO A2 K → V p l e R s m args below meth c nL D A cells slots Q ws (pc + 3) lv st) : V p l e R s m args below meth c nL D A cells slots Q ws pc lv (.int y :: .int x :: st) :=
  fun H locs ls hP hD hS hl => lv_icmp_ne X.1 X.2.1 hd ht (fun q => kt q (by rw [if_pos q] at h; exact h) H locs ls hP hD hS hl) (fun q => kf (fun z => z q) (by rw [if_neg (fun z => z q)] at h; exact h) H locs ls hP hD hS hl)
theorem V_if_ne (X : Cx p R s m args meth c own cc nL d D ad cI cB A cells slots) {x : Int32} {off : Int} (tgt : Nat) {α : Type} {A1 A2 : Option α} {K : α → Prop} (hd : decode cc pc = .ok (.ifCond .ne off, 3)) (ht : (pc : Int) + off = (tgt : Int)) (h : wpO (if ¬ x = 0 then A1 else A2) K) (kt : ¬ x = 0 → wpO A1 K → V p l e R s m args below meth c nL D A cells slots Q ws tgt lv st) (kf : ¬ (¬ x = 0) → wpO A2 K → V p l e R s m args below meth c nL D A cells slots Q ws (pc + 3) lv st) : V p l e R s m args below meth c nL D A cells slots Q ws pc lv (.int x :: st) :=
  fun H locs ls hP hD hS hl => lv_if_ne X.1 X.2.1 hd ht (fun q => kt q (by rw [if_pos q] at h; exact h) H locs ls hP hD hS hl) (fun q => kf (fun z => z q) (by rw [if_neg (fun z => z q)] at h; exact h) H locs ls hP hD hS hl)
theorem V_if_neT (X : Cx p R s m args meth c own cc nL d D ad cI cB A cells slots) {x : Int32} {off : Int} (tgt : Nat) (hd : decode cc pc = .ok (.ifCond .ne off, 3)) (ht : (pc : Int) + off = (tgt : Int)) (hx : ¬ x = 0) (k : V p l e R s m args below meth c nL D A cells slots Q ws tgt lv st) : V p l e R s m args below meth c nL D A cells slots Q ws pc lv (.int x :: st) :=
  fun H locs ls hP hD hS hl => lv_if_ne X.1 X.2.1 hd ht (fun q => k H locs ls hP hD hS hl) (fun q => absurd q hx)
theorem V_if_neF (X : Cx p R s m args meth c own cc nL d D ad cI cB A cells slots) {x : Int32} {off : Int} (hd : decode cc pc = .ok (.ifCond .ne off, 3)) (tgt : Nat) (ht : (pc : Int) + off = (tgt : Int)) (hx : ¬ (¬ x = 0)) (k : V p l e R s m args below meth c nL D A cells slots Q ws (pc + 3) lv st) : V p l e R s m args below meth c nL D A cells slots Q ws pc lv (.int x :: st) :=
  fun H locs ls hP hD hS hl => lv_if_ne X.1 X.2.1 hd ht (fun q => absurd q hx) (fun q => k H locs ls hP hD hS hl)
theorem V_icmp_lt (X : Cx p R s m args meth c own cc nL d D ad cI cB A cells slots) {x y : Int32} {off : Int} (tgt : Nat) {α : Type} {A1 A2 : Option α} {K : α → Prop} (hd : decode cc pc = .ok (.if_icmp .lt off, 3)) (ht : (pc : Int) + off = (tgt : Int)) (h : wpO (if x < y then A1 else A2) K) (kt : x < y → wpO A1 K → V p l e R s m args below meth c nL D A cells slots Q ws tgt lv st) (kf : ¬ (x < y) → wpO A2 K → V p l e R s m args below meth c nL D A cells slots Q ws (pc + 3) lv st) : V p l e R s m args below meth c nL D A cells slots Q ws pc lv (.int y :: .int x :: st) :=
  fun H locs ls hP hD hS hl => lv_icmp_lt X.1 X.2.1 hd ht (fun q => kt q (by rw [if_pos q] at h; exact h) H locs ls hP hD hS hl) (fun q => kf q (by rw [if_neg q] at h; exact h) H locs ls hP hD hS hl)
theorem V_if_lt (X : Cx p R s m args meth c own cc nL d D ad cI cB A cells slots) {x : Int32} {off : Int} (tgt : Nat) {α : Type} {A1 A2 : Option α} {K : α → Prop} (hd : decode cc pc = .ok (.ifCond .lt off, 3)) (ht : (pc : Int) + off = (tgt : Int)) (h : wpO (if x < 0 then A1 else A2) K) (kt : x < 0 → wpO A1 K → V p l e R s m args below meth c nL D A cells slots Q ws tgt lv st) (kf : ¬ (x < 0) → wpO A2 K → V p l e R s m args below meth c nL D A cells slots Q ws (pc + 3) lv st) : V p l e R s m args below meth c nL D A cells slots Q ws pc lv (.int x :: st) :=
  fun H locs ls hP hD hS hl => lv_if_lt X.1 X.2.1 hd ht (fun q => kt q (by rw [if_pos q] at h; exact h) H locs ls hP hD hS hl) (fun q => kf q (by rw [if_neg q] at h; exact h) H locs ls hP hD hS hl)
theorem V_if_ltT (X : Cx p R s m args meth c own cc nL d D ad cI cB A cells slots) {x : Int32} {off : Int} (tgt : Nat) (hd : decode cc pc = .ok (.ifCond .lt off, 3)) (ht : (pc : Int) + off = (tgt : Int)) (hx : x < 0) (k : V p l e R s m args below meth c nL D A cells slots Q ws tgt lv st) : V p l e R s m args below meth c nL D A cells slots Q ws pc lv (.int x :: st) :=
  fun H locs ls hP hD hS hl => lv_if_lt X.1 X.2.1 hd ht (fun q => k H locs ls hP hD hS hl) (fun q => absurd hx q)
theorem V_if_ltF (X : Cx p R s m args meth c own cc nL d D ad cI cB A cells slots) {x : Int32} {off : Int} (hd : decode cc pc = .ok (.ifCond .lt off, 3)) (tgt : Nat) (ht : (pc : Int) + off = (tgt : Int)) (hx : ¬ (x < 0)) (k : V p l e R s m args below meth c nL D A cells slots Q ws (pc + 3) lv st) : V p l e R s m args below meth c nL D A cells slots Q ws pc lv (.int x :: st) :=
  fun H locs ls hP hD hS hl => lv_if_lt X.1 X.2.1 hd ht (fun q => absurd q hx) (fun q => k H locs ls hP hD hS hl)
theorem V_icmp_ge (X : Cx p R s m args meth c own cc nL d D ad cI cB A cells slots) {x y : Int32} {off : Int} (tgt : Nat) {α : Type} {A1 A2 : Option α} {K : α → Prop} (hd : decode cc pc = .ok (.if_icmp .ge off, 3)) (ht : (pc : Int) + off = (tgt : Int)) (h : wpO (if y ≤ x then A1 else A2) K) (kt : y ≤ x → wpO A1 K → V p l e R s m args below meth c nL D A cells slots Q ws tgt lv st) (kf : ¬ (y ≤ x) → wpO A2 K → V p l e R s m args below meth c nL D A cells slots Q ws (pc + 3) lv st) : V p l e R s m args below meth c nL D A cells slots Q ws pc lv (.int y :: .int x :: st) :=
  fun H locs ls hP hD hS hl => lv_icmp_ge X.1 X.2.1 hd ht (fun q => kt q (by rw [if_pos q] at h; exact h) H locs ls hP hD hS hl) (fun q => kf q (by rw [if_neg q] at h; exact h) H locs ls hP hD hS hl)
theorem V_if_ge (X : Cx p R s m args meth c own cc nL d D ad cI cB A cells slots) {x : Int32} {off : Int} (tgt : Nat) {α : Type} {A1 A2 : Option α} {K : α → Prop} (hd : decode cc pc = .ok (.ifCond .ge off, 3)) (ht : (pc : Int) + off = (tgt : Int)) (h : wpO (if 0 ≤ x then A1 else A2) K) (kt : 0 ≤ x → wpO A1 K → V p l e R s m args below meth c nL D A cells slots Q ws tgt lv st) (kf : ¬ (0 ≤ x) → wpO A2 K → V p l e R s m args below meth c nL D A cells slots Q ws (pc + 3) lv st) : V p l e R s m args below meth c nL D A cells slots Q ws pc lv (.int x :: st) :=
  fun H locs ls hP hD hS hl => lv_if_ge X.1 X.2.1 hd ht (fun q => kt q (by rw [if_pos q] at h; exact h) H locs ls hP hD hS hl) (fun q => kf q (by rw [if_neg q] at h; exact h) H locs ls hP hD hS hl)
theorem V_if_geT (X : Cx p R s m args meth c own cc nL d D ad cI cB A cells slots) {x : Int32} {off : Int} (tgt : Nat) (hd : decode cc pc = .ok (.ifCond .ge off, 3)) (ht : (pc : Int) + off = (tgt : Int)) (hx : 0 ≤ x) (k : V p l e R s m args below meth c nL D A cells slots Q ws tgt lv st) : V p l e R s m args below meth c nL D A cells slots Q ws pc lv (.int x :: st) :=
  fun H locs ls hP hD hS hl => lv_if_ge X.1 X.2.1 hd ht (fun q => k H locs ls hP hD hS hl) (fun q => absurd hx q)
theorem V_if_geF (X : Cx p R s m args meth c own cc nL d D ad cI cB A cells slots) {x : Int32} {off : Int} (hd : decode cc pc = .ok (.ifCond .ge off, 3)) (tgt : Nat) (ht : (pc : Int) + off = (tgt : Int)) (hx : ¬ (0 ≤ x)) (k : V p l e R s m args below meth c nL D A cells slots Q ws (pc + 3) lv st) : V p l e R s m args below meth c nL D A cells slots Q ws pc lv (.int x :: st) :=
  fun H locs ls hP hD hS hl => lv_if_ge X.1 X.2.1 hd ht (fun q => absurd q hx) (fun q => k H locs ls hP hD hS hl)
theorem V_icmp_gt (X : Cx p R s m args meth c own cc nL d D ad cI cB A cells slots) {x y : Int32} {off : Int} (tgt : Nat) {α : Type} {A1 A2 : Option α} {K : α → Prop} (hd : decode cc pc = .ok (.if_icmp .gt off, 3)) (ht : (pc : Int) + off = (tgt : Int)) (h : wpO (if y < x then A1 else A2) K) (kt : y < x → wpO A1 K → V p l e R s m args below meth c nL D A cells slots Q ws tgt lv st) (kf : ¬ (y < x) → wpO A2 K → V p l e R s m args below meth c nL D A cells slots Q ws (pc + 3) lv st) : V p l e R s m args below meth c nL D A cells slots Q ws pc lv (.int y :: .int x :: st) :=
  fun H locs ls hP hD hS hl => lv_icmp_gt X.1 X.2.1 hd ht (fun q => kt q (by rw [if_pos q] at h; exact h) H locs ls hP hD hS hl) (fun q => kf q (by rw [if_neg q] at h; exact h) H locs ls hP hD hS hl)
theorem V_if_gt (X : Cx p R s m args meth c own cc nL d D ad cI cB A cells slots) {x : Int32} {off : Int} (tgt : Nat) {α : Type} {A1 A2 : Option α} {K : α → Prop} (hd : decode cc pc = .ok (.ifCond .gt off, 3)) (ht : (pc : Int) + off = (tgt : Int)) (h : wpO (if 0 < x then A1 else A2) K) (kt : 0 < x → wpO A1 K → V p l e R s m args below meth c nL D A cells slots Q ws tgt lv st) (kf : ¬ (0 < x) → wpO A2 K → V p l e R s m args below meth c nL D A cells slots Q ws (pc + 3) lv st) : V p l e R s m args below meth c nL D A cells slots Q ws pc lv (.int x :: st) :=
  fun H locs ls hP hD hS hl => lv_if_gt X.1 X.2.1 hd ht (fun q => kt q (by rw [if_pos q] at h; exact h) H locs ls hP hD hS hl) (fun q => kf q (by rw [if_neg q] at h; exact h) H locs ls hP hD hS hl)
theorem V_if_gtT (X : Cx p R s m args meth c own cc nL d D ad cI cB A cells slots) {x : Int32} {off : Int} (tgt : Nat) (hd : decode cc pc = .ok (.ifCond .gt off, 3)) (ht : (pc : Int) + off = (tgt : Int)) (hx : 0 < x) (k : V p l e R s m args below meth c nL D A cells slots Q ws tgt lv st) : V p l e R s m args below meth c nL D A cells slots Q ws pc lv (.int x :: st) :=
  fun H locs ls hP hD hS hl => lv_if_gt X.1 X.2.1 hd ht (fun q => k H locs ls hP hD hS hl) (fun q => absurd hx q)
theorem V_if_gtF (X : Cx p R s m args meth c own cc nL d D ad cI cB A cells slots) {x : Int32} {off : Int} (hd : decode cc pc = .ok (.ifCond .gt off, 3)) (tgt : Nat) (ht : (pc : Int) + off = (tgt : Int)) (hx : ¬ (0 < x)) (k : V p l e R s m args below meth c nL D A cells slots Q ws (pc + 3) lv st) : V p l e R s m args below meth c nL D A cells slots Q ws pc lv (.int x :: st) :=
  fun H locs ls hP hD hS hl => lv_if_gt X.1 X.2.1 hd ht (fun q => absurd q hx) (fun q => k H locs ls hP hD hS hl)
theorem V_icmp_le (X : Cx p R s m args meth c own cc nL d D ad cI cB A cells slots) {x y : Int32} {off : Int} (tgt : Nat) {α : Type} {A1 A2 : Option α} {K : α → Prop} (hd : decode cc pc = .ok (.if_icmp .le off, 3)) (ht : (pc : Int) + off = (tgt : Int)) (h : wpO (if x ≤ y then A1 else A2) K) (kt : x ≤ y → wpO A1 K → V p l e R s m args below meth c nL D A cells slots Q ws tgt lv st) (kf : ¬ (x ≤ y) → wpO A2 K → V p l e R s m args below meth c nL D A cells slots Q ws (pc + 3) lv st) : V p l e R s m args below meth c nL D A cells slots Q ws pc lv (.int y :: .int x :: st) :=
  fun H locs ls hP hD hS hl => lv_icmp_le X.1 X.2.1 hd ht (fun q => kt q (by rw [if_pos q] at h; exact h) H locs ls hP hD hS hl) (fun q => kf q (by rw [if_neg q] at h; exact h) H locs ls hP hD hS hl)
theorem V_if_le (X : Cx p R s m args meth c own cc nL d D ad cI cB A cells slots) {x : Int32} {off : Int} (tgt : Nat) {α : Type} {A1 A2 : Option α} {K : α → Prop} (hd : decode cc pc = .ok (.ifCond .le off, 3)) (ht : (pc : Int) + off = (tgt : Int)) (h : wpO (if x ≤ 0 then A1 else A2) K) (kt : x ≤ 0 → wpO A1 K → V p l e R s m args below meth c nL D A cells slots Q ws tgt lv st) (kf : ¬ (x ≤ 0) → wpO A2 K → V p l e R s m args below meth c nL D A cells slots Q ws (pc + 3) lv st) : V p l e R s m args below meth c nL D A cells slots Q ws pc lv (.int x :: st) :=
  fun H locs ls hP hD hS hl => lv_if_le X.1 X.2.1 hd ht (fun q => kt q (by rw [if_pos q] at h; exact h) H locs ls hP hD hS hl) (fun q => kf q (by rw [if_neg q] at h; exact h) H locs ls hP hD hS hl)
theorem V_if_leT (X : Cx p R s m args meth c own cc nL d D ad cI cB A cells slots) {x : Int32} {off : Int} (tgt : Nat) (hd : decode cc pc = .ok (.ifCond .le off, 3)) (ht : (pc : Int) + off = (tgt : Int)) (hx : x ≤ 0) (k : V p l e R s m args below meth c nL D A cells slots Q ws tgt lv st) : V p l e R s m args below meth c nL D A cells slots Q ws pc lv (.int x :: st) :=
  fun H locs ls hP hD hS hl => lv_if_le X.1 X.2.1 hd ht (fun q => k H locs ls hP hD hS hl) (fun q => absurd hx q)
theorem V_if_leF (X : Cx p R s m args meth c own cc nL d D ad cI cB A cells slots) {x : Int32} {off : Int} (hd : decode cc pc = .ok (.ifCond .le off, 3)) (tgt : Nat) (ht : (pc : Int) + off = (tgt : Int)) (hx : ¬ (x ≤ 0)) (k : V p l e R s m args below meth c nL D A cells slots Q ws (pc + 3) lv st) : V p l e R s m args below meth c nL D A cells slots Q ws pc lv (.int x :: st) :=
  fun H locs ls hP hD hS hl => lv_if_le X.1 X.2.1 hd ht (fun q => absurd q hx) (fun q => k H locs ls hP hD hS hl)
theorem V_goto (X : Cx p R s m args meth c own cc nL d D ad cI cB A cells slots) {off : Int} (tgt : Nat) (hd : decode cc pc = .ok (.goto off, 3)) (ht : (pc : Int) + off = (tgt : Int)) (k : V p l e R s m args below meth c nL D A cells slots Q ws tgt lv st) : V p l e R s m args below meth c nL D A cells slots Q ws pc lv st :=
  fun H locs ls hP hD hS hl => lv_goto X.1 X.2.1 hd ht (k H locs ls hP hD hS hl)
theorem V_dup (X : Cx p R s m args meth c own cc nL d D ad cI cB A cells slots) {v : Value} (hd : decode cc pc = .ok (.dup, 1)) (hv : v.category = 1) (k : V p l e R s m args below meth c nL D A cells slots Q ws (pc + 1) lv (v :: v :: st)) : V p l e R s m args below meth c nL D A cells slots Q ws pc lv (v :: st) :=
  fun H locs ls hP hD hS hl => lv_dup X.1 X.2.1 hd hv (k H locs ls hP hD hS hl)
theorem V_pop (X : Cx p R s m args meth c own cc nL d D ad cI cB A cells slots) {v : Value} (hd : decode cc pc = .ok (.pop, 1)) (hv : v.category = 1) (k : V p l e R s m args below meth c nL D A cells slots Q ws (pc + 1) lv st) : V p l e R s m args below meth c nL D A cells slots Q ws pc lv (v :: st) :=
  fun H locs ls hP hD hS hl => lv_pop X.1 X.2.1 hd hv (k H locs ls hP hD hS hl)
theorem V_dup2 (X : Cx p R s m args meth c own cc nL d D ad cI cB A cells slots) {v u : Value} (hd : decode cc pc = .ok (.dup2, 1)) (hv : v.category = 1) (hu : u.category = 1) (k : V p l e R s m args below meth c nL D A cells slots Q ws (pc + 1) lv (v :: u :: v :: u :: st)) : V p l e R s m args below meth c nL D A cells slots Q ws pc lv (v :: u :: st) :=
  fun H locs ls hP hD hS hl => lv_dup2_11 X.1 X.2.1 hd hv hu (k H locs ls hP hD hS hl)
theorem V_ifnonnull (X : Cx p R s m args meth c own cc nL d D ad cI cB A cells slots) {x : Nat} {off : Int} (tgt : Nat) (hd : decode cc pc = .ok (.ifnonnull off, 3)) (ht : (pc : Int) + off = (tgt : Int)) (k : V p l e R s m args below meth c nL D A cells slots Q ws tgt lv st) : V p l e R s m args below meth c nL D A cells slots Q ws pc lv (.ref x :: st) :=
  fun H locs ls hP hD hS hl => lv_ifnonnull X.1 X.2.1 hd ht (k H locs ls hP hD hS hl)
theorem V_tableOut (X : Cx p R s m args meth c own cc nL d D ad cI cB A cells slots) {dflt lo hi : Int} {offs : Array Int} {len : Nat} {x : Int32} (tgt : Nat) (hd : decode cc pc = .ok (.tableswitch dflt lo hi offs, len)) (hx : x.toInt < lo ∨ hi < x.toInt) (ht : (pc : Int) + dflt = (tgt : Int)) (k : V p l e R s m args below meth c nL D A cells slots Q ws tgt lv st) : V p l e R s m args below meth c nL D A cells slots Q ws pc lv (.int x :: st) :=
  fun H locs ls hP hD hS hl => lv_tableOut X.1 X.2.1 hd hx ht (k H locs ls hP hD hS hl)
theorem V_tableIn (X : Cx p R s m args meth c own cc nL d D ad cI cB A cells slots) {dflt lo hi : Int} {offs : Array Int} {len : Nat} {x : Int32} (off : Int) (tgt : Nat) (hd : decode cc pc = .ok (.tableswitch dflt lo hi offs, len)) (z : Int) (hx : x.toInt = z) (h1 : ¬ z < lo) (h2 : ¬ hi < z) (ho : offs[(z - lo).toNat]? = some off) (ht : (pc : Int) + off = (tgt : Int)) (k : V p l e R s m args below meth c nL D A cells slots Q ws tgt lv st) : V p l e R s m args below meth c nL D A cells slots Q ws pc lv (.int x :: st) := by
  subst hx
  exact fun H locs ls hP hD hS hl => lv_tableIn X.1 X.2.1 hd h1 h2 ho ht (k H locs ls hP hD hS hl)
theorem V_lookup (X : Cx p R s m args meth c own cc nL d D ad cI cB A cells slots) {dflt : Int} {ps : Array (Int × Int)} {len : Nat} {x : Int32} (off : Int) (tgt : Nat) (hd : decode cc pc = .ok (.lookupswitch dflt ps, len)) (hp : (ps.toList.zip (ps.toList.drop 1)).all (fun (a, next) => a.1 < next.1) = true) (ho : Op.lookupswitch.offset ps.toList dflt x.toInt = off) (ht : (pc : Int) + off = (tgt : Int)) (k : V p l e R s m args below meth c nL D A cells slots Q ws tgt lv st) : V p l e R s m args below meth c nL D A cells slots Q ws pc lv (.int x :: st) :=
  fun H locs ls hP hD hS hl => lv_lookup X.1 X.2.1 hd hp ho ht (k H locs ls hP hD hS hl)
theorem V_lcmp (X : Cx p R s m args meth c own cc nL d D ad cI cB A cells slots) {x y : Int64} (hd : decode cc pc = .ok (.lcmp, 1)) (k : V p l e R s m args below meth c nL D A cells slots Q ws (pc + 1) lv (.int (lg_cmp x y) :: st)) : V p l e R s m args below meth c nL D A cells slots Q ws pc lv (.long y :: .long x :: st) :=
  fun H locs ls hP hD hS hl => W.lcmp X.1 X.2.1 hd (k H locs ls hP hD hS hl)
/-- a field: q is its class's place, j its own -/
theorem V_get (X : Cx p R s m args meth c own cc nL d D ad cI cB A cells slots) (q j : Nat) {C : String} {T : u_T} {N idx k : Nat} (hq : classes[q]? = some (C, T, N)) (hin : ∀ w ∈ u_ws C T N, w ∈ gtbl) (hj : j < N) (hn : j < jv_nf q) (hl : Cond.fieldLink own idx (T j).1 (T j).2.1 (T j).2.2.1 ∈ gtbl) (hd : decode cc pc = .ok (.getfield idx, 3)) (hk : k < 93) (hc : jv_cls k = q) (hq11 : q < 11)
    (kk : V p l e R s m args below meth c nL D A cells slots Q (wl ad cI cB σ) (pc + 3) lv (jv_fv ad σ q k j :: st)) : V p l e R s m args below meth c nL D A cells slots Q (wl ad cI cB σ) pc lv (.ref (ad k) :: st) :=
  fun H locs ls hP hD hS hl' => va_get (D := D) (ci := q) (C := C) (T := T) (N := N) X.1 X.2.1 X.2.2.2.2.1 hin X.2.2.2.1 X.2.2.2.2.2.1 hP k (by rw [wl_get hk, jv_ceO hc hq11]) hq j hj (X.2.2.2.2.1 _ hl) (fun _ h9 => h9) (jv_fsAt hn) hd (kk H locs ls hP hD hS hl')
theorem jv_fvI {ad : Nat → Nat} {σ : Sg} {q k j : Nat} (h : jv_ty q j = 0) : jv_fv ad σ q k j = .int (gF σ k j) := by rw [jv_fv, if_pos h]
theorem jv_fvR {ad : Nat → Nat} {σ : Sg} {q k j : Nat} (h : jv_ty q j = 1) : jv_fv ad σ q k j = .ref (ad (jv_rf k j)) := by rw [jv_fv, if_neg (by omega), if_pos h]
theorem jv_fvL {ad : Nat → Nat} {σ : Sg} {q k j : Nat} (h : jv_ty q j = 2) : jv_fv ad σ q k j = .long (gL σ k j) := by rw [jv_fv, if_neg (by omega), if_neg (by omega)]
theorem V_getI (X : Cx p R s m args meth c own cc nL d D ad cI cB A cells slots) (q j : Nat) {C : String} {T : u_T} {N idx k : Nat} (hq : classes[q]? = some (C, T, N)) (hin : ∀ w ∈ u_ws C T N, w ∈ gtbl) (hj : j < N) (hn : j < jv_nf q) (ht : jv_ty q j = 0) (hl : Cond.fieldLink own idx (T j).1 (T j).2.1 (T j).2.2.1 ∈ gtbl) (hd : decode cc pc = .ok (.getfield idx, 3)) (hk : k < 93) (hc : jv_cls k = q) (hq11 : q < 11)
    (kk : V p l e R s m args below meth c nL D A cells slots Q (wl ad cI cB σ) (pc + 3) lv (.int (gF σ k j) :: st)) : V p l e R s m args below meth c nL D A cells slots Q (wl ad cI cB σ) pc lv (.ref (ad k) :: st) :=
  V_get X q j hq hin hj hn hl hd hk hc hq11 (by rw [jv_fvI ht]; exact kk)
theorem V_getR (X : Cx p R s m args meth c own cc nL d D ad cI cB A cells slots) (q j t : Nat) {C : String} {T : u_T} {N idx k : Nat} (hq : classes[q]? = some (C, T, N)) (hin : ∀ w ∈ u_ws C T N, w ∈ gtbl) (hj : j < N) (hn : j < jv_nf q) (ht : jv_ty q j = 1) (hl : Cond.fieldLink own idx (T j).1 (T j).2.1 (T j).2.2.1 ∈ gtbl) (hd : decode cc pc = .ok (.getfield idx, 3)) (hk : k < 93) (hc : jv_cls k = q) (hq11 : q < 11) (hr : jv_rf k j = t)
    (kk : V p l e R s m args below meth c nL D A cells slots Q (wl ad cI cB σ) (pc + 3) lv (.ref (ad t) :: st)) : V p l e R s m args below meth c nL D A cells slots Q (wl ad cI cB σ) pc lv (.ref (ad k) :: st) :=
  V_get X q j hq hin hj hn hl hd hk hc hq11 (by rw [jv_fvR ht, hr]; exact kk)
theorem V_getL (X : Cx p R s m args meth c own cc nL d D ad cI cB A cells slots) (q j : Nat) {C : String} {T : u_T} {N idx k : Nat} (hq : classes[q]? = some (C, T, N)) (hin : ∀ w ∈ u_ws C T N, w ∈ gtbl) (hj : j < N) (hn : j < jv_nf q) (ht : jv_ty q j = 2) (hl : Cond.fieldLink own idx (T j).1 (T j).2.1 (T j).2.2.1 ∈ gtbl) (hd : decode cc pc = .ok (.getfield idx, 3)) (hk : k < 93) (hc : jv_cls k = q) (hq11 : q < 11)
    (kk : V p l e R s m args below meth c nL D A cells slots Q (wl ad cI cB σ) (pc + 3) lv (.long (gL σ k j) :: st)) : V p l e R s m args below meth c nL D A cells slots Q (wl ad cI cB σ) pc lv (.ref (ad k) :: st) :=
  V_get X q j hq hin hj hn hl hd hk hc hq11 (by rw [jv_fvL ht]; exact kk)
theorem V_put (X : Cx p R s m args meth c own cc nL d D ad cI cB A cells slots) (q j : Nat) {C : String} {T : u_T} {N idx k : Nat} {σ' : Sg} {v : Value} {ty : FieldType} {ty0 : Nat → FieldType} (hq : classes[q]? = some (C, T, N)) (hin : ∀ w ∈ u_ws C T N, w ∈ gtbl) (hty : ∀ k, k < N → parseFieldDescriptor (T k).2.2.1 = some (ty0 k)) (hnm : ∀ a, a < N → ∀ b, b < N → a ≠ b → (T a).2.1 ≠ (T b).2.1) (hj : j < N) (hn : j < jv_nf q) (hfin : (T j).2.2.2 = false) (htd : parseFieldDescriptor (T j).2.2.1 = some ty) (hnar : narrow ty v = v) (hfit : fits ty v = true) (hl : Cond.fieldLink own idx (T j).1 (T j).2.1 (T j).2.2.1 ∈ gtbl) (hd : decode cc pc = .ok (.putfield idx, 3)) (hk : k < 93) (hc : jv_cls k = q) (hq11 : q < 11)
    (h1 : jv_fv ad σ' q k j = v) (h2 : ∀ i, i ≠ j → jv_fv ad σ' q k i = jv_fv ad σ q k i) (h3 : ∀ i, i < 93 → i ≠ k → jv_ce ad cI cB σ' i = jv_ce ad cI cB σ i)
    (kk : V p l e R s m args below meth c nL D A cells slots Q (wl ad cI cB σ') (pc + 3) lv st) : V p l e R s m args below meth c nL D A cells slots Q (wl ad cI cB σ) pc lv (v :: .ref (ad k) :: st) := by
  intro H locs ls hP hD hS hl'
  have e : (wl ad cI cB σ).set k (ad k, .inr (q, (jv_fs ad σ q k).set j v)) = wl ad cI cB σ' := wl_set hk (by rw [jv_ceO hc hq11, jv_fsSet hn h1 h2]) h3
  refine va_put (D := D) (ci := q) (C := C) (T := T) (N := N) (ty := ty) X.1 X.2.1 X.2.2.2.2.1 hin ty0 hty hnm X.2.2.2.1 X.2.2.2.2.2.1 hP hD hS k (by rw [wl_get hk, jv_ceO hc hq11]) hq j hj (X.2.2.2.2.1 _ hl) (fun _ h9 => h9) hfin htd hnar hfit (by simp [jv_fs, hn]) hd (fun H1 locs1 hP1 hD1 hS1 => ?_)
  rw [e] at hP1 hD1
  exact kk H1 locs1 ls hP1 hD1 hS1 hl'
theorem V_putI (X : Cx p R s m args meth c own cc nL d D ad cI cB A cells slots) (q j : Nat) {C : String} {T : u_T} {N idx k : Nat} {x : Int32} {ty0 : Nat → FieldType} (hq : classes[q]? = some (C, T, N)) (hin : ∀ w ∈ u_ws C T N, w ∈ gtbl) (hty : ∀ k, k < N → parseFieldDescriptor (T k).2.2.1 = some (ty0 k)) (hnm : ∀ a, a < N → ∀ b, b < N → a ≠ b → (T a).2.1 ≠ (T b).2.1) (hj : j < N) (hn : j < jv_nf q) (ht : jv_ty q j = 0) (hfin : (T j).2.2.2 = false) (htd : parseFieldDescriptor (T j).2.2.1 = some .int) (hl : Cond.fieldLink own idx (T j).1 (T j).2.1 (T j).2.2.1 ∈ gtbl) (hd : decode cc pc = .ok (.putfield idx, 3)) (hk : k < 93) (hc : jv_cls k = q) (hq11 : q < 11)
    (kk : V p l e R s m args below meth c nL D A cells slots Q (wl ad cI cB (sF σ k j x)) (pc + 3) lv st) : V p l e R s m args below meth c nL D A cells slots Q (wl ad cI cB σ) pc lv (.int x :: .ref (ad k) :: st) :=
  V_put (σ' := sF σ k j x) X q j hq hin hty hnm hj hn hfin htd rfl rfl hl hd hk hc hq11 (by simp [jv_fvI ht, gF, sF]) (fun i hi => by simp [jv_fv, gF, gL, sF, hi]) (fun i _ hi => jv_ceOther (fun j => by simp [gF, sF, hi]) rfl (fun j => rfl)) kk
theorem V_putZ (X : Cx p R s m args meth c own cc nL d D ad cI cB A cells slots) (q j : Nat) {C : String} {T : u_T} {N idx k : Nat} {x : Int32} {ty0 : Nat → FieldType} (hb : isb x = true) (hq : classes[q]? = some (C, T, N)) (hin : ∀ w ∈ u_ws C T N, w ∈ gtbl) (hty : ∀ k, k < N → parseFieldDescriptor (T k).2.2.1 = some (ty0 k)) (hnm : ∀ a, a < N → ∀ b, b < N → a ≠ b → (T a).2.1 ≠ (T b).2.1) (hj : j < N) (hn : j < jv_nf q) (ht : jv_ty q j = 0) (hfin : (T j).2.2.2 = false) (htd : parseFieldDescriptor (T j).2.2.1 = some .boolean) (hl : Cond.fieldLink own idx (T j).1 (T j).2.1 (T j).2.2.1 ∈ gtbl) (hd : decode cc pc = .ok (.putfield idx, 3)) (hk : k < 93) (hc : jv_cls k = q) (hq11 : q < 11)
    (kk : V p l e R s m args below meth c nL D A cells slots Q (wl ad cI cB (sF σ k j x)) (pc + 3) lv st) : V p l e R s m args below meth c nL D A cells slots Q (wl ad cI cB σ) pc lv (.int x :: .ref (ad k) :: st) :=
  V_put (σ' := sF σ k j x) X q j hq hin hty hnm hj hn hfin htd (isb_nar hb).1 (isb_nar hb).2 hl hd hk hc hq11 (by simp [jv_fvI ht, gF, sF]) (fun i hi => by simp [jv_fv, gF, gL, sF, hi]) (fun i _ hi => jv_ceOther (fun j => by simp [gF, sF, hi]) rfl (fun j => rfl)) kk
theorem V_putL (X : Cx p R s m args meth c own cc nL d D ad cI cB A cells slots) (q j : Nat) {C : String} {T : u_T} {N idx k : Nat} {x : Int64} {ty0 : Nat → FieldType} (hq : classes[q]? = some (C, T, N)) (hin : ∀ w ∈ u_ws C T N, w ∈ gtbl) (hty : ∀ k, k < N → parseFieldDescriptor (T k).2.2.1 = some (ty0 k)) (hnm : ∀ a, a < N → ∀ b, b < N → a ≠ b → (T a).2.1 ≠ (T b).2.1) (hj : j < N) (hn : j < jv_nf q) (ht : jv_ty q j = 2) (hfin : (T j).2.2.2 = false) (htd : parseFieldDescriptor (T j).2.2.1 = some .long) (hl : Cond.fieldLink own idx (T j).1 (T j).2.1 (T j).2.2.1 ∈ gtbl) (hd : decode cc pc = .ok (.putfield idx, 3)) (hk : k < 93) (hc : jv_cls k = q) (hq11 : q < 11)
    (kk : V p l e R s m args below meth c nL D A cells slots Q (wl ad cI cB (sL σ k j x)) (pc + 3) lv st) : V p l e R s m args below meth c nL D A cells slots Q (wl ad cI cB σ) pc lv (.long x :: .ref (ad k) :: st) :=
  V_put (σ' := sL σ k j x) X q j hq hin hty hnm hj hn hfin htd rfl rfl hl hd hk hc hq11 (by simp [jv_fvL ht, gL, sL]) (fun i hi => by simp [jv_fv, gF, gL, sL, hi]) (fun i _ hi => jv_ceOther (fun j => rfl) rfl (fun j => by simp [gL, sL, hi])) kk
theorem V_iald (X : Cx p R s m args meth c own cc nL d D ad cI cB A cells slots) {k n : Nat} {i : Int32} {α : Type} {A1 : Option α} {K : α → Prop} (hd : decode cc pc = .ok (.iaload, 1)) (hk : k < 93) (hc : jv_cls k = 100) (hn : jv_ln k = n) (h : wpO (if inb i n = true then A1 else none) K)
    (kk : wpO A1 K → V p l e R s m args below meth c nL D A cells slots Q (wl ad cI cB σ) (pc + 1) lv (.int (gA σ k (ix i)) :: st)) : V p l e R s m args below meth c nL D A cells slots Q (wl ad cI cB σ) pc lv (.int i :: .ref (ad k) :: st) :=
  fun H locs ls hP hD hS hl => va_iald (D := D) (cA := cI) (n := jv_ln k) (f := σ.2.1 k) X.1 X.2.1 X.2.2.2.2.2.1 hP k 0 (by rw [wl_get hk, jv_ceI hc]) rfl (by rw [hn]; exact inb_vp (wp_if h).1) hd (kk (wp_if h).2 H locs ls hP hD hS hl)
theorem V_bald (X : Cx p R s m args meth c own cc nL d D ad cI cB A cells slots) {k n : Nat} {i : Int32} {α : Type} {A1 : Option α} {K : α → Prop} (hd : decode cc pc = .ok (.baload, 1)) (hk : k < 93) (hc : jv_cls k = 101) (hn : jv_ln k = n) (h : wpO (if inb i n = true then A1 else none) K)
    (kk : wpO A1 K → V p l e R s m args below meth c nL D A cells slots Q (wl ad cI cB σ) (pc + 1) lv (.int (gA σ k (ix i)) :: st)) : V p l e R s m args below meth c nL D A cells slots Q (wl ad cI cB σ) pc lv (.int i :: .ref (ad k) :: st) :=
  fun H locs ls hP hD hS hl => va_bald (D := D) (cA := cB) (n := jv_ln k) (f := σ.2.1 k) X.1 X.2.1 X.2.2.2.2.2.1 hP k 1 (by rw [wl_get hk, jv_ceB hc]) rfl (by rw [hn]; exact inb_vp (wp_if h).1) hd (kk (wp_if h).2 H locs ls hP hD hS hl)
theorem jv_sAce {ad : Nat → Nat} {cI cB : ClassId} {σ : Sg} {k i j : Nat} {v : Int32} (hj : j ≠ k) : jv_ce ad cI cB (sA σ k i v) j = jv_ce ad cI cB σ j :=
  jv_ceOther (fun _ => rfl) (by funext b; simp [sA, hj]) (fun _ => rfl)
theorem jv_sAup {σ : Sg} {k i : Nat} {v : Int32} : (sA σ k i v).2.1 k = upd (σ.2.1 k) i v := by funext b; simp [sA, upd]
theorem V_iast (X : Cx p R s m args meth c own cc nL d D ad cI cB A cells slots) {k n : Nat} {i x : Int32} {α : Type} {A1 : Option α} {K : α → Prop} (hd : decode cc pc = .ok (.iastore, 1)) (hk : k < 93) (hc : jv_cls k = 100) (hn : jv_ln k = n) (h : wpO (if inb i n = true then A1 else none) K)
    (kk : wpO A1 K → V p l e R s m args below meth c nL D A cells slots Q (wl ad cI cB (sA σ k (ix i) x)) (pc + 1) lv st) : V p l e R s m args below meth c nL D A cells slots Q (wl ad cI cB σ) pc lv (.int x :: .int i :: .ref (ad k) :: st) := by
  intro H locs ls hP hD hS hl
  have e : (wl ad cI cB σ).set k (ad k, .inl (cI, jv_ln k, .inl (upd (σ.2.1 k) i.toNatClampNeg x))) = wl ad cI cB (sA σ k (ix i) x) := wl_set hk (by rw [jv_ceI hc, jv_sAup]; rfl) (fun j _ hj => jv_sAce hj)
  refine va_iast (D := D) X.1 X.2.1 X.2.2.2.2.2.1 hP hD hS k 0 (by rw [wl_get hk, jv_ceI hc]) rfl (by rw [hn]; exact inb_vp (wp_if h).1) hd (fun H1 locs1 hP1 hD1 hS1 => ?_)
  rw [e] at hP1 hD1
  exact kk (wp_if h).2 H1 locs1 ls hP1 hD1 hS1 hl
theorem V_bast (X : Cx p R s m args meth c own cc nL d D ad cI cB A cells slots) {k n : Nat} {i x : Int32} {α : Type} {A1 : Option α} {K : α → Prop} (hd : decode cc pc = .ok (.bastore, 1)) (hk : k < 93) (hc : jv_cls k = 101) (hn : jv_ln k = n) (h : wpO (if inb i n = true then A1 else none) K)
    (kk : wpO A1 K → V p l e R s m args below meth c nL D A cells slots Q (wl ad cI cB (sA σ k (ix i) x.toInt8.toInt32)) (pc + 1) lv st) : V p l e R s m args below meth c nL D A cells slots Q (wl ad cI cB σ) pc lv (.int x :: .int i :: .ref (ad k) :: st) := by
  intro H locs ls hP hD hS hl
  have e : (wl ad cI cB σ).set k (ad k, .inl (cB, jv_ln k, .inl (upd (σ.2.1 k) i.toNatClampNeg (vp_nar .byte x)))) = wl ad cI cB (sA σ k (ix i) x.toInt8.toInt32) := wl_set hk (by rw [jv_ceB hc, jv_sAup, vp_nar_byte]; rfl) (fun j _ hj => jv_sAce hj)
  refine va_bast (D := D) X.1 X.2.1 X.2.2.2.2.2.1 hP hD hS k 1 (by rw [wl_get hk, jv_ceB hc]) rfl (by rw [hn]; exact inb_vp (wp_if h).1) hd (fun H1 locs1 hP1 hD1 hS1 => ?_)
  rw [e] at hP1 hD1
  exact kk (wp_if h).2 H1 locs1 ls hP1 hD1 hS1 hl
theorem V_alen (X : Cx p R s m args meth c own cc nL d D ad cI cB A cells slots) {k n : Nat} (hd : decode cc pc = .ok (.arraylength, 1)) (hk : k < 93) (hc : jv_cls k = 100) (hn : jv_ln k = n)
    (kk : V p l e R s m args below meth c nL D A cells slots Q (wl ad cI cB σ) (pc + 1) lv (.int (Int32.ofNat n) :: st)) : V p l e R s m args below meth c nL D A cells slots Q (wl ad cI cB σ) pc lv (.ref (ad k) :: st) :=
  fun H locs ls hP hD hS hl => va_alen (D := D) X.1 X.2.1 X.2.2.2.2.2.1 hP k 0 (by rw [wl_get hk, jv_ceI hc]) (ty := .int) rfl (by rw [← hn]) hd (kk H locs ls hP hD hS hl)
theorem jv_recv (X : Cx p R s m args meth c own cc nL d D ad cI cB A cells slots) {q k : Nat} {C : String} {T : u_T} {N : Nat} {H : Heap} (hq : classes[q]? = some (C, T, N)) (hk : k < 93) (hc : jv_cls k = q) (hq11 : q < 11) (hP : va_P D classes (wl ad cI cB σ) H) : ∃ cell : Cell, H[ad k]? = some cell ∧ cell.vm.isStatics = false ∧ s.vm.findClass C = some cell.cls :=
  va_recv (q := (C, T, N)) X.2.2.2.2.2.1 hP (ci := q) (q0 := k) hq (by rw [wl_get hk, jv_ceO hc hq11])
theorem jv_AwA {H : Heap} (hP : va_P D classes (wl ad cI cB σ) H) (hD : va_D A (wl ad cI cB σ)) {locs : List Loc} (hS : va_S A s.heap H locs) (hA : ∀ q, s.heap.size ≤ q → A q) : ∀ q, Aw ad H.size q → A q := by
  intro q h
  rcases h with ⟨k, hk, rfl⟩ | h
  · exact hD.2 k (ad k, jv_ce ad cI cB σ k) (wl_get hk)
  · exact hA q (Nat.le_trans hS.1 h)
/-- what a method is called by -/
def Mt (y : MethodName) (b : ByteArray) (mL : Nat) (ret : Option FieldType) (n : Nat) : Prop := Cond.code y b mL ret ∈ gtbl ∧ Cond.initialized y.cls ∈ gtbl ∧ (y.cls ≠ "java/lang/invoke/MethodHandle" ∧ y.cls ≠ "java/lang/invoke/VarHandle") ∧ (parseMethodDescriptor y.desc).map (fun d => d.parameters.length) = some n ∧ mL ≤ 19
theorem jv_good {y : MethodName} {b : ByteArray} {mL : Nat} {ret : Option FieldType} (h : Cond.code y b mL ret ∈ gtbl) : GoodIn gtbl (Cond.code y b mL ret :: gtbl) := by
  intro w hw
  rcases List.mem_cons.mp hw with rfl | hw
  · exact ⟨h, good_of_word (List.mem_filter.mp h).2⟩
  · exact ⟨hw, good_of_word (List.mem_filter.mp hw).2⟩
def CallOK (p : Program) (l : Launch) (e : Env) (R : Room) (s : State) (m : MethodId) (args : Array Value) (below : List Frame) (meth : Method) (c : Code) (nL : Nat) (D : va_G) (ad : Nat → Nat) (cI cB : ClassId) (A : Nat → Prop) (cells slots : Nat) (σ σ' : Sg) (pc : Nat) (st rest : List Value) (rv : Option Value) : Prop :=
  ∀ (H : Heap) (locs : List Loc) (ls : Array Slot), va_P D classes (wl ad cI cB σ) H → va_D A (wl ad cI cB σ) → va_S A s.heap H locs → ls.size = nL → ∃ a : Array Value, va_Run p l e R s m args below meth c H locs cells slots 0 0 (F0 m pc ls st) rest (Pst D (wl ad cI cB σ') (Aw ad H.size) rv a) (Aw ad H.size)
theorem V_call (X : Cx p R s m args meth c own cc nL d D ad cI cB A cells slots) {σ' : Sg} {rest : List Value} {rv : Option Value} (hc : CallOK p l e R s m args below meth c nL D ad cI cB A cells slots σ σ' pc st rest rv)
    (kk : V p l e R s m args below meth c nL D A cells slots Q (wl ad cI cB σ') (pc + 3) lv (rv.toList ++ rest)) : V p l e R s m args below meth c nL D A cells slots Q (wl ad cI cB σ) pc lv st := by
  intro H locs ls hP hD hS hl T hT Y
  obtain ⟨a, hr⟩ := hc H locs ls hP hD hS hl.1
  obtain ⟨v, st₀, t, T', L, h0, Y', hL, e1, e2, ⟨⟨hv, hP1, hD1⟩, hz, hk⟩, stp⟩ := hr T hT Y
  cases hv
  rw [h0] at hz hk
  have hAA := jv_AwA hP hD hS X.2.2.2.2.2.2.1
  obtain ⟨t2, a1, b1⟩ := kk T'.heap (locs ++ L) ls (by rw [e1]; exact hP1) (hD1.weaken (fun _ q _ h => hAA q.1 h))
    ⟨Nat.le_trans hS.1 (by rw [e1]; exact hz), fun q h1 h2 => by rw [e1, hk q (Nat.lt_of_lt_of_le h1 hS.1) (fun z => h2 (hAA q z))]; exact hS.2.1 q h1 h2, fun q hq => by
      rcases List.mem_append.mp hq with h | h
      · exact hS.2.2 q h
      · exact hAA _ (hL q h)⟩ hl T' rfl Y'
  exact ⟨t2, stp t2 a1, b1⟩
theorem jv_pre (X : Cx p R s m args meth c own cc nL d D ad cI cB A cells slots) {H : Heap} {locs : List Loc} {av : List Value} (hP : va_P D classes (wl ad cI cB σ) H) (hD : va_D A (wl ad cI cB σ)) (hS : va_S A s.heap H locs) : ∀ U : State, U.heap = H → s.WarmedH U.vm → Pre D ad cI cB (wl ad cI cB σ) H.size av av.toArray U :=
  fun U hU hW => ⟨rfl, by rw [hU], by rw [hU]; exact hP, va_K.moved hW.alike X.2.2.2.2.2.1, hD.weaken (fun _ _ _ _ => trivial), X.2.2.2.2.2.2.2.1.go hS hU hW (jv_AwA hP hD hS X.2.2.2.2.2.2.1)⟩
theorem jv_callB (X : Cx p R s m args meth c own cc nL d D ad cI cB A cells slots) {y : MethodName} {b : ByteArray} {mL : Nat} {ret : Option FieldType} {n dc idx : Nat} (mt : Mt y b mL ret n) (hd : dc + 1 ≤ d) (ml : (Cond.methodLink own idx y).before args s = true) : CallB R s args own idx y b mL ret (Cond.code y b mL ret :: gtbl) { frames := dc, cells := 0, slots := 0, locals := 38 * dc } 0 0 n :=
  callB_of n X.2.2.2.2.1 (jv_good mt.1) rfl rfl rfl (X.2.2.2.2.1 _ mt.2.1) ml ⟨mt.2.2.1.1, mt.2.2.1.2, mt.2.2.2.1⟩ ⟨Nat.le_trans hd X.2.2.2.2.2.2.2.2.1.1, by
    have h1 := X.2.2.2.2.2.2.2.2.1.2.1
    have h2 := mt.2.2.2.2
    show 8 + (mL + 11) + 38 * dc ≤ R.locals
    omega⟩
theorem C_V (X : Cx p R s m args meth c own cc nL d D ad cI cB A cells slots) {y : MethodName} {b : ByteArray} {mL : Nat} {ret : Option FieldType} {n dc idx q k : Nat} {C : String} {T : u_T} {N : Nat} {σ' : Sg} {rv : (Nat → Nat) → Option Value} {av : (Nat → Nat) → List Value} (As : List Value) {rest : List Value} (mt : Mt y b mL ret n) (ms : Cond.instanceMethod y ∈ gtbl ∧ Cond.selects C y y ∈ gtbl) (ml : Cond.methodLink own idx y ∈ gtbl) (hE : Evc y b mL ret dc av σ σ' rv) (hav : av ad = .ref (ad k) :: As) (hn : As.length = n) (hdc : dc + 1 ≤ d) (hr8 : (rest.map fun v => v.category).sum ≤ 8) (hq : classes[q]? = some (C, T, N)) (hk : k < 93) (hc : jv_cls k = q) (hq11 : q < 11) (hd : decode cc pc = .ok (.invokevirtual idx, 3)) :
    CallOK p l e R s m args below meth c nL D ad cI cB A cells slots σ σ' pc (As.reverse ++ .ref (ad k) :: rest) rest (rv ad) := by
  intro H locs ls hP hD hS hsz
  have hM := hE l D ad cI cB H.size
  rw [hav] at hM
  exact ⟨_, va_runV (As := As) (rest := rest) ⟨X.1, X.2.1, X.2.2.1, X.2.2.2.1, X.2.2.2.2.1⟩ hM ⟨jv_callB X mt hdc (X.2.2.2.2.1 _ ml), X.2.2.2.2.1 _ ms.1, X.2.2.2.2.1 _ ms.2⟩ ⟨Pre.blind, jv_recv X hq hk hc hq11 hP, jv_pre X hP hD hS⟩ rfl hn hsz rfl (by simpa [JFrame.monitorRoom] using hr8) hd ⟨X.2.2.2.2.2.2.2.2.1.2.2.1, X.2.2.2.2.2.2.2.2.1.2.2.2⟩⟩
theorem C_S (X : Cx p R s m args meth c own cc nL d D ad cI cB A cells slots) {y : MethodName} {b : ByteArray} {mL : Nat} {ret : Option FieldType} {n dc idx : Nat} {σ' : Sg} {rv : (Nat → Nat) → Option Value} {av : (Nat → Nat) → List Value} (As : List Value) {rest : List Value} (mt : Mt y b mL ret n) (ms : Cond.static y ∈ gtbl) (ml : Cond.methodLink own idx y ∈ gtbl) (hE : Evc y b mL ret dc av σ σ' rv) (hav : av ad = As) (hn : As.length = n) (hdc : dc + 1 ≤ d) (hr8 : (rest.map fun v => v.category).sum ≤ 8) (hd : decode cc pc = .ok (.invokestatic idx, 3)) :
    CallOK p l e R s m args below meth c nL D ad cI cB A cells slots σ σ' pc (As.reverse ++ rest) rest (rv ad) := by
  intro H locs ls hP hD hS hsz
  have hM := hE l D ad cI cB H.size
  rw [hav] at hM
  exact ⟨_, va_runS (As := As) (rest := rest) ⟨X.1, X.2.1, X.2.2.1, X.2.2.2.1, X.2.2.2.2.1⟩ hM ⟨jv_callB X mt hdc (X.2.2.2.2.1 _ ml), X.2.2.2.2.1 _ ms⟩ ⟨Pre.blind, jv_pre X hP hD hS⟩ rfl hn hsz rfl (by simpa [JFrame.monitorRoom] using hr8) hd ⟨X.2.2.2.2.2.2.2.2.1.2.2.1, X.2.2.2.2.2.2.2.2.1.2.2.2⟩⟩
theorem C_SN (X : Cx p R s m args meth c own cc nL d D ad cI cB A cells slots) {y : MethodName} {b : ByteArray} {mL : Nat} {ret : Option FieldType} {n dc idx : Nat} {host : String} {σ' : Sg} {rv : (Nat → Nat) → Option Value} {av : (Nat → Nat) → List Value} (As : List Value) {rest : List Value} (mt : Mt y b mL ret n) (ms : Cond.static y ∈ gtbl) (ml : Cond.methodLinkNest own idx y host ∈ lw_tbl) (hE : Evc y b mL ret dc av σ σ' rv) (hav : av ad = As) (hn : As.length = n) (hdc : dc + 1 ≤ d) (hr8 : (rest.map fun v => v.category).sum ≤ 8) (hd : decode cc pc = .ok (.invokestatic idx, 3)) :
    CallOK p l e R s m args below meth c nL D ad cI cB A cells slots σ σ' pc (As.reverse ++ rest) rest (rv ad) := by
  intro H locs ls hP hD hS hsz
  have hM := hE l D ad cI cB H.size
  rw [hav] at hM
  exact ⟨_, va_runSN (As := As) (rest := rest) ⟨X.1, X.2.1, X.2.2.1, X.2.2.2.1, X.2.2.2.2.1⟩ hM ⟨va_cnB n X.2.2.2.2.1 (jv_good mt.1) rfl rfl rfl (X.2.2.2.2.2.2.2.1.1 _ _ _ _ ml) (X.2.2.2.2.1 _ mt.2.1) ⟨mt.2.2.1.1, mt.2.2.1.2, mt.2.2.2.1⟩ ⟨Nat.le_trans hdc X.2.2.2.2.2.2.2.2.1.1, by
    have h1 := X.2.2.2.2.2.2.2.2.1.2.1
    have h2 := mt.2.2.2.2
    show 8 + (mL + 11) + 38 * dc ≤ R.locals
    omega⟩, X.2.2.2.2.1 _ ms, trivial⟩ ⟨Pre.blind, jv_pre X hP hD hS⟩ rfl hn hsz rfl (by simpa [JFrame.monitorRoom] using hr8) hd ⟨X.2.2.2.2.2.2.2.2.1.2.2.1, X.2.2.2.2.2.2.2.2.1.2.2.2⟩⟩
theorem V_lload (X : Cx p R s m args meth c own cc nL d D ad cI cB A cells slots) {i : Nat} (q : Nat) {x : Int64} (hd : decode cc pc = .ok (.lload i, 2)) (hq : lv[q]? = some (i, .long x)) (k : V p l e R s m args below meth c nL D A cells slots Q ws (pc + 2) lv (.long x :: st)) : V p l e R s m args below meth c nL D A cells slots Q ws pc lv st :=
  fun H locs ls hP hD hS hl => lv_lload X.1 X.2.1 hd (lv_at hl q hq) (k H locs ls hP hD hS hl)
theorem V_aload (X : Cx p R s m args meth c own cc nL d D ad cI cB A cells slots) {i : Nat} (q : Nat) {x : Nat} (hd : decode cc pc = .ok (.aload i, 2)) (hq : lv[q]? = some (i, .ref x)) (k : V p l e R s m args below meth c nL D A cells slots Q ws (pc + 2) lv (.ref x :: st)) : V p l e R s m args below meth c nL D A cells slots Q ws pc lv st :=
  fun H locs ls hP hD hS hl => lv_aload X.1 X.2.1 hd (lv_at hl q hq) (k H locs ls hP hD hS hl)
theorem V_lstore (X : Cx p R s m args meth c own cc nL d D ad cI cB A cells slots) {i : Nat} {x : Int64} (lv' : List (Nat × Value)) (hd : decode cc pc = .ok (.lstore i, 2)) (hn : i + 1 < nL) (hl' : (i, Value.long x) :: lv.filter (fun q => !(q.1 == i) && (!(q.1 == i + 1) && !(q.1 + 1 == i && q.2.category == 2))) = lv') (k : V p l e R s m args below meth c nL D A cells slots Q ws (pc + 2) lv' st) : V p l e R s m args below meth c nL D A cells slots Q ws pc lv (.long x :: st) :=
  fun H locs ls hP hD hS hl => lv_lstore X.1 X.2.1 hd hl hn hl' (fun ls hl => k H locs ls hP hD hS hl)
theorem V_joinP {α β : Type} {f : Option (α × Sg)} {g : α → Sg → Option β} {K : β → Prop} {T1 : α → Sg → Prop} {T2 : Prop} (h : wpO (bindP f g) K) (k1 : ∀ v s, wpO (g v s) K → T1 v s) (k2 : (∀ v s, wpO (g v s) K → T1 v s) → wpO f (fun q => wpO (g q.1 q.2) K) → T2) : T2 := by
  obtain ⟨r, σ, e, h1⟩ := wp_P h
  exact k2 k1 ⟨(r, σ), e, h1⟩
theorem V_joinV {α β : Type} {f : Option α} {g : α → Option β} {K : β → Prop} {T1 : α → Prop} {T2 : Prop} (h : wpO (bindV f g) K) (k1 : ∀ v, wpO (g v) K → T1 v) (k2 : (∀ v, wpO (g v) K → T1 v) → wpO f (fun q => wpO (g q) K) → T2) : T2 := by
  obtain ⟨r, e, h1⟩ := wp_V h
  exact k2 k1 ⟨r, e, h1⟩
theorem V_joinS {β : Type} {f : Option Sg} {g : Sg → Option β} {K : β → Prop} {T1 : Sg → Prop} {T2 : Prop} (h : wpO (bindV f g) K) (k1 : ∀ v, wpO (g v) K → T1 v) (k2 : (∀ v, wpO (g v) K → T1 v) → wpO f (fun q => wpO (g q) K) → T2) : T2 := by
  obtain ⟨r, e, h1⟩ := wp_V h
  exact k2 k1 ⟨r, e, h1⟩
theorem wp_N {α β : Type} {x : α} {g : α → Option β} {K : β → Prop} (h : wpO (bindV (some x) g) K) : ∃ r, x = r ∧ wpO (g r) K := ⟨x, rfl, h⟩

end VROWS
