/-! HOW A METHOD ENDS, and how its contract comes out of the walk of its body -/
section VENDS
variable (p : Program) (l : Launch) (e : Env) (R : Room) (s : State) (m : MethodId) (args : Array Value) (below : List Frame) (meth : Method) (c : Code) (nL : Nat) (D : va_G) (ad : Nat → Nat) (cI cB : ClassId) (A : Nat → Prop) (cells slots : Nat) (Q : State → Prop) (cc : ByteArray)
def RI (z : Bool) (K : Int32 × Sg → Prop) : Prop := ∀ (r : Int32) (σ : Sg), K (r, σ) → (z = true → isb r = true) → ∀ (pc : Nat) (lv : List (Nat × Value)), decode cc pc = .ok (.ireturn, 1) → V p l e R s m args below meth c nL D A cells slots Q (wl ad cI cB σ) pc lv [.int r]
def RP (z : Bool) (σ : Sg) (K : Int32 → Prop) : Prop := ∀ (r : Int32), K r → (z = true → isb r = true) → ∀ (pc : Nat) (lv : List (Nat × Value)), decode cc pc = .ok (.ireturn, 1) → V p l e R s m args below meth c nL D A cells slots Q (wl ad cI cB σ) pc lv [.int r]
def RV (K : Sg → Prop) : Prop := ∀ (σ : Sg), K σ → ∀ (pc : Nat) (lv : List (Nat × Value)), decode cc pc = .ok (.return_, 1) → V p l e R s m args below meth c nL D A cells slots Q (wl ad cI cB σ) pc lv []
def RL (K : Int64 × Sg → Prop) : Prop := ∀ (r : Int64) (σ : Sg), K (r, σ) → ∀ (pc : Nat) (lv : List (Nat × Value)), decode cc pc = .ok (.lreturn, 1) → V p l e R s m args below meth c nL D A cells slots Q (wl ad cI cB σ) pc lv [.long r]
def RPL (σ : Sg) (K : Int64 → Prop) : Prop := ∀ (r : Int64), K r → ∀ (pc : Nat) (lv : List (Nat × Value)), decode cc pc = .ok (.lreturn, 1) → V p l e R s m args below meth c nL D A cells slots Q (wl ad cI cB σ) pc lv [.long r]
end VENDS
theorem Evc_of {y : MethodName} {b : ByteArray} {mL d : Nat} {ret : Option FieldType} {av : (Nat → Nat) → List Value} {σ σ' : Sg} {rv : (Nat → Nat) → Option Value} (hy : plainName y.cls = true) (hlen : ∀ ad, (lg_sl (av ad)).length ≤ mL)
    (body : ∀ (p : Program) (l : Launch) (e : Env) (R : Room) (s : State) (m : MethodId) (args : Array Value) (below : List Frame) (meth : Method) (c : Code) (D : va_G) (ad : Nat → Nat) (cI cB : ClassId) (A : Nat → Prop), Cx p R s m args meth c y.cls b mL d D ad cI cB A 0 0 → meth.sig.returnType = ret →
      (∀ (t : State) (H : Heap) (locs : List Loc), t.heap = H → va_P D classes (wl ad cI cB σ') H → va_D A (wl ad cI cB σ') → va_S A s.heap H locs → Pst D (wl ad cI cB σ') A (rv ad) args s (.returned (rv ad)) t ∧ ∀ q ∈ locs, A q.base) →
      V p l e R s m args below meth c mL D A 0 0 (MQ below (Pst D (wl ad cI cB σ') A (rv ad)) args s 0 0 A) (wl ad cI cB σ) 0 (lv_args 0 (av ad)) []) :
    Evc y b mL ret d av σ σ' rv := by
  intro l D ad cI cB sz
  refine Met.ofW (cc := b) (maxL := mL) (ret := ret) hy rfl ?_
  intro p e s m args below meth c s₁ B hml hv
  obtain ⟨rfl, hsz, hP, hK, hD0, hSx⟩ := hv
  have hts := atoms_spec (ws := Cond.code y b mL ret :: gtbl) B.pre
  have hown : s.vm.findClass y.cls = some m.cls := findClass_of_methodNamed B.named
  subst hsz
  have hD : va_D (Aw ad s.heap.size) (wl ad cI cB σ) := ⟨hD0.1, fun k q h => Or.inl ⟨k, (wl_out h).1, by rw [(wl_out h).2]⟩⟩
  have hS : va_S (Aw ad s.heap.size) s.heap s.heap [] := va_S.rf
  have hl := lv_entry (av ad) (n := mL) (hlen ad)
  rw [lg_entry_eq]
  generalize (lg_sl (av ad) ++ List.replicate (mL - (lg_sl (av ad)).length) Slot.unset).toArray = ls at hl ⊢
  refine body p l e _ s m _ below meth c D ad cI cB (Aw ad s.heap.size) ⟨B.exec, B.bytes, hml, hown, fun w hw => hts w (List.mem_cons_of_mem _ hw), hK, fun q h => Or.inr h, hSx, ⟨Nat.le_refl _, Nat.le_refl _, Nat.le_refl _, Nat.le_refl _⟩, B.notSynchronized⟩ B.returns ?_ s.heap [] ls hP hD hS hl
  intro t H locs ht hP1 hD1 hS1
  exact ⟨⟨⟨rfl, by rw [ht]; exact hP1, hD1⟩, hS1.F ht⟩, hS1.2.2⟩
theorem Evc_ofI {y : MethodName} {b : ByteArray} {mL d : Nat} {av : (Nat → Nat) → List Value} {σ σ' : Sg} {r : Int32} (hy : plainName y.cls = true) (hlen : ∀ ad, (lg_sl (av ad)).length ≤ mL)
    (body : ∀ (p : Program) (l : Launch) (e : Env) (R : Room) (s : State) (m : MethodId) (args : Array Value) (below : List Frame) (meth : Method) (c : Code) (D : va_G) (ad : Nat → Nat) (cI cB : ClassId) (A : Nat → Prop) (Q : State → Prop), Cx p R s m args meth c y.cls b mL d D ad cI cB A 0 0 → RI p l e R s m args below meth c mL D ad cI cB A 0 0 Q b false (fun q => q = (r, σ')) →
      V p l e R s m args below meth c mL D A 0 0 Q (wl ad cI cB σ) 0 (lv_args 0 (av ad)) []) :
    Evc y b mL (some .int) d av σ σ' (fun _ => some (.int r)) :=
  Evc_of hy hlen (fun p l e R s m args below meth c D ad cI cB A X hr hq => body p l e R s m args below meth c D ad cI cB A _ X (by
    intro r1 σ1 e1 _ pc lv hd H locs ls hP hD hS hl
    cases e1
    exact W.iret (v := r) X.1 X.2.1 hr (fun t ht _ => (hq t H locs ht hP hD hS).1) hS.2.2 hd X.2.2.2.2.2.2.2.2.2))
theorem Evc_ofZ {y : MethodName} {b : ByteArray} {mL d : Nat} {av : (Nat → Nat) → List Value} {σ σ' : Sg} {r : Int32} (hy : plainName y.cls = true) (hlen : ∀ ad, (lg_sl (av ad)).length ≤ mL)
    (body : ∀ (p : Program) (l : Launch) (e : Env) (R : Room) (s : State) (m : MethodId) (args : Array Value) (below : List Frame) (meth : Method) (c : Code) (D : va_G) (ad : Nat → Nat) (cI cB : ClassId) (A : Nat → Prop) (Q : State → Prop), Cx p R s m args meth c y.cls b mL d D ad cI cB A 0 0 → RI p l e R s m args below meth c mL D ad cI cB A 0 0 Q b true (fun q => q = (r, σ')) →
      V p l e R s m args below meth c mL D A 0 0 Q (wl ad cI cB σ) 0 (lv_args 0 (av ad)) []) :
    Evc y b mL (some .boolean) d av σ σ' (fun _ => some (.int r)) :=
  Evc_of hy hlen (fun p l e R s m args below meth c D ad cI cB A X hr hq => body p l e R s m args below meth c D ad cI cB A _ X (by
    intro r1 σ1 e1 hz pc lv hd H locs ls hP hD hS hl
    cases e1
    exact W.zret (v := r) X.1 X.2.1 hr (isb_nar (hz rfl)).1 (fun t ht _ => (hq t H locs ht hP hD hS).1) hS.2.2 hd X.2.2.2.2.2.2.2.2.2))
theorem Evc_ofV {y : MethodName} {b : ByteArray} {mL d : Nat} {av : (Nat → Nat) → List Value} {σ σ' : Sg} (hy : plainName y.cls = true) (hlen : ∀ ad, (lg_sl (av ad)).length ≤ mL)
    (body : ∀ (p : Program) (l : Launch) (e : Env) (R : Room) (s : State) (m : MethodId) (args : Array Value) (below : List Frame) (meth : Method) (c : Code) (D : va_G) (ad : Nat → Nat) (cI cB : ClassId) (A : Nat → Prop) (Q : State → Prop), Cx p R s m args meth c y.cls b mL d D ad cI cB A 0 0 → RV p l e R s m args below meth c mL D ad cI cB A 0 0 Q b (fun q => q = σ') →
      V p l e R s m args below meth c mL D A 0 0 Q (wl ad cI cB σ) 0 (lv_args 0 (av ad)) []) :
    Evc y b mL none d av σ σ' (fun _ => none) :=
  Evc_of hy hlen (fun p l e R s m args below meth c D ad cI cB A X hr hq => body p l e R s m args below meth c D ad cI cB A _ X (by
    intro σ1 e1 pc lv hd H locs ls hP hD hS hl
    cases e1
    exact W.vret X.1 X.2.1 hr (fun t ht _ => (hq t H locs ht hP hD hS).1) hS.2.2 hd X.2.2.2.2.2.2.2.2.2))
theorem Evc_ofL {y : MethodName} {b : ByteArray} {mL d : Nat} {av : (Nat → Nat) → List Value} {σ σ' : Sg} {r : Int64} (hy : plainName y.cls = true) (hlen : ∀ ad, (lg_sl (av ad)).length ≤ mL)
    (body : ∀ (p : Program) (l : Launch) (e : Env) (R : Room) (s : State) (m : MethodId) (args : Array Value) (below : List Frame) (meth : Method) (c : Code) (D : va_G) (ad : Nat → Nat) (cI cB : ClassId) (A : Nat → Prop) (Q : State → Prop), Cx p R s m args meth c y.cls b mL d D ad cI cB A 0 0 → RL p l e R s m args below meth c mL D ad cI cB A 0 0 Q b (fun q => q = (r, σ')) →
      V p l e R s m args below meth c mL D A 0 0 Q (wl ad cI cB σ) 0 (lv_args 0 (av ad)) []) :
    Evc y b mL (some .long) d av σ σ' (fun _ => some (.long r)) :=
  Evc_of hy hlen (fun p l e R s m args below meth c D ad cI cB A X hr hq => body p l e R s m args below meth c D ad cI cB A _ X (by
    intro r1 σ1 e1 pc lv hd H locs ls hP hD hS hl
    cases e1
    exact W.lret (v := r) X.1 X.2.1 hr (fun t ht _ => (hq t H locs ht hP hD hS).1) hS.2.2 hd X.2.2.2.2.2.2.2.2.2))
theorem Evc_ofR {y : MethodName} {b : ByteArray} {mL d : Nat} {C : String} {av : (Nat → Nat) → List Value} {σ : Sg} {k : Nat} (hy : plainName y.cls = true) (hlen : ∀ ad, (lg_sl (av ad)).length ≤ mL)
    (body : ∀ (p : Program) (l : Launch) (e : Env) (R : Room) (s : State) (m : MethodId) (args : Array Value) (below : List Frame) (meth : Method) (c : Code) (D : va_G) (ad : Nat → Nat) (cI cB : ClassId) (A : Nat → Prop) (Q : State → Prop), Cx p R s m args meth c y.cls b mL d D ad cI cB A 0 0 → (∀ (pc : Nat) (lv : List (Nat × Value)), decode b pc = .ok (.areturn, 1) → V p l e R s m args below meth c mL D A 0 0 Q (wl ad cI cB σ) pc lv [.ref (ad k)]) →
      V p l e R s m args below meth c mL D A 0 0 Q (wl ad cI cB σ) 0 (lv_args 0 (av ad)) []) :
    Evc y b mL (some (.object C)) d av σ σ (fun ad => some (.ref (ad k))) :=
  Evc_of hy hlen (fun p l e R s m args below meth c D ad cI cB A X hr hq => body p l e R s m args below meth c D ad cI cB A _ X (by
    intro pc lv hd H locs ls hP hD hS hl
    exact W.aret (v := .ref (ad k)) X.1 X.2.1 hr (Or.inl ⟨_, rfl⟩) (Or.inr ⟨_, rfl⟩) (fun t ht _ => (hq t H locs ht hP hD hS).1) hS.2.2 hd X.2.2.2.2.2.2.2.2.2))
theorem RI.pure {p : Program} {l : Launch} {e : Env} {R : Room} {s : State} {m : MethodId} {args : Array Value} {below : List Frame} {meth : Method} {c : Code} {nL : Nat} {D : va_G} {ad : Nat → Nat} {cI cB : ClassId} {A : Nat → Prop} {cells slots : Nat} {Q : State → Prop} {cc : ByteArray} {z : Bool} {r : Int32} {σ : Sg} (h : RI p l e R s m args below meth c nL D ad cI cB A cells slots Q cc z (fun q => q = (r, σ))) : RP p l e R s m args below meth c nL D ad cI cB A cells slots Q cc z σ (fun q => q = r) :=
  fun r1 e1 hz pc lv hd => h r1 σ (by rw [e1]) hz pc lv hd
theorem RL.pure {p : Program} {l : Launch} {e : Env} {R : Room} {s : State} {m : MethodId} {args : Array Value} {below : List Frame} {meth : Method} {c : Code} {nL : Nat} {D : va_G} {ad : Nat → Nat} {cI cB : ClassId} {A : Nat → Prop} {cells slots : Nat} {Q : State → Prop} {cc : ByteArray} {r : Int64} {σ : Sg} (h : RL p l e R s m args below meth c nL D ad cI cB A cells slots Q cc (fun q => q = (r, σ))) : RPL p l e R s m args below meth c nL D ad cI cB A cells slots Q cc σ (fun q => q = r) :=
  fun r1 e1 pc lv hd => h r1 σ (by rw [e1]) pc lv hd
