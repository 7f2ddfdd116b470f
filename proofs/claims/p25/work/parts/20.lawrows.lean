section VLAW
variable {p : Program} {l : Launch} {e : Env} {R : Room} {s : State} {m : MethodId} {args : Array Value} {below : List Frame} {meth : Method} {c : Code} {own : String} {cc : ByteArray} {nL d : Nat} {D : va_G} {ad : Nat → Nat} {cI cB : ClassId} {A : Nat → Prop} {cells slots : Nat} {Q : State → Prop} {ws : va_W} {pc : Nat} {lv : List (Nat × Value)} {st : List Value} {b L : Nat} {xs : Nat → Int32}
theorem V_sld (X : Cx p R s m args meth c own cc nL d D ad cI cB A cells slots) (HX : va_X b L xs s s.heap ∧ b < s.heap.size ∧ ¬ A b) {i : Int32} {α : Type} {A1 : Option α} {K : α → Prop} (hd : decode cc pc = .ok (.iaload, 1)) (h : wpO (if inb i L = true then A1 else none) K)
    (kk : wpO A1 K → V p l e R s m args below meth c nL D A cells slots Q ws (pc + 1) lv (.int (xs (ix i)) :: st)) : V p l e R s m args below meth c nL D A cells slots Q ws pc lv (.int i :: .ref b :: st) :=
  fun H locs ls hP hD hS hl => va_sld X.1 X.2.1 HX.1 HX.2.1 HX.2.2 hS (inb_vp (wp_if h).1) hd (kk (wp_if h).2 H locs ls hP hD hS hl)
theorem V_slen (X : Cx p R s m args meth c own cc nL d D ad cI cB A cells slots) (HX : va_X b L xs s s.heap ∧ b < s.heap.size ∧ ¬ A b) (hd : decode cc pc = .ok (.arraylength, 1))
    (kk : V p l e R s m args below meth c nL D A cells slots Q ws (pc + 1) lv (.int (Int32.ofNat L) :: st)) : V p l e R s m args below meth c nL D A cells slots Q ws pc lv (.ref b :: st) :=
  fun H locs ls hP hD hS hl => va_slen X.1 X.2.1 HX.1 HX.2.1 HX.2.2 hS hd (kk H locs ls hP hD hS hl)
end VLAW

/-! A METHOD THAT READS THE SCRIPT: its contract has the script's cell in its start -/
def PreX (D : va_G) (ad : Nat → Nat) (cI cB : ClassId) (ws : va_W) (sz : Nat) (av : List Value) (bs L : Nat) (xs : Nat → Int32) : Array Value → State → Prop :=
  fun a U => Pre D ad cI cB ws sz av a U ∧ va_X bs L xs U U.heap ∧ bs < U.heap.size ∧ ¬ Aw ad sz bs
theorem PreX.blind {D : va_G} {ad : Nat → Nat} {cI cB : ClassId} {ws : va_W} {sz : Nat} {av : List Value} {bs L : Nat} {xs : Nat → Int32} : FrameBlind (PreX D ad cI cB ws sz av bs L xs) :=
  fun a U g mk q => ⟨Pre.blind a U g mk q.1, va_X.moved (u := U) (U := U.calling g mk a) (Vm.Alike.refl U.vm) q.2.1, q.2.2⟩
def EvX (y : MethodName) (b : ByteArray) (mL : Nat) (ret : Option FieldType) (d : Nat) (av : (Nat → Nat) → List Value) (σ : Sg) (rv : (Nat → Nat) → Option Value) (bs L : Nat) (xs : Nat → Int32) : Prop :=
  ∀ (l : Launch) (D : va_G) (ad : Nat → Nat) (cI cB : ClassId) (sz : Nat), Met l y (Cond.code y b mL ret :: gtbl) { frames := d, cells := 0, slots := 0, locals := 38 * d } (PreX D ad cI cB (wl ad cI cB σ) sz (av ad) bs L xs) (Pst D (wl ad cI cB σ) (Aw ad sz) (rv ad)) 0 0 (Aw ad sz)
theorem EvX_ofI {y : MethodName} {b : ByteArray} {mL d : Nat} {av : (Nat → Nat) → List Value} {σ : Sg} {r : Int32} {bs L : Nat} {xs : Nat → Int32} (hy : plainName y.cls = true) (hlen : ∀ ad, (lg_sl (av ad)).length ≤ mL)
    (body : ∀ (p : Program) (l : Launch) (e : Env) (R : Room) (s : State) (m : MethodId) (args : Array Value) (below : List Frame) (meth : Method) (c : Code) (D : va_G) (ad : Nat → Nat) (cI cB : ClassId) (A : Nat → Prop) (Q : State → Prop), Cx p R s m args meth c y.cls b mL d D ad cI cB A 0 0 → (va_X bs L xs s s.heap ∧ bs < s.heap.size ∧ ¬ A bs) → RI p l e R s m args below meth c mL D ad cI cB A 0 0 Q b false (fun q => q = (r, σ)) →
      V p l e R s m args below meth c mL D A 0 0 Q (wl ad cI cB σ) 0 (lv_args 0 (av ad)) []) :
    EvX y b mL (some .int) d av σ (fun _ => some (.int r)) bs L xs := by
  intro l D ad cI cB sz
  refine Met.ofW (cc := b) (maxL := mL) (ret := some .int) hy rfl ?_
  intro p e s m args below meth c s₁ B hml hv
  obtain ⟨⟨rfl, hsz, hP, hK, hD0, hSx⟩, hXs⟩ := hv
  have hts := atoms_spec (ws := Cond.code y b mL (some .int) :: gtbl) B.pre
  have hown : s.vm.findClass y.cls = some m.cls := findClass_of_methodNamed B.named
  subst hsz
  have hD : va_D (Aw ad s.heap.size) (wl ad cI cB σ) := ⟨hD0.1, fun k q h => Or.inl ⟨k, (wl_out h).1, by rw [(wl_out h).2]⟩⟩
  have hS : va_S (Aw ad s.heap.size) s.heap s.heap [] := va_S.rf
  have hl := lv_entry (av ad) (n := mL) (hlen ad)
  rw [lg_entry_eq]
  generalize (lg_sl (av ad) ++ List.replicate (mL - (lg_sl (av ad)).length) Slot.unset).toArray = ls at hl ⊢
  refine body p l e _ s m _ below meth c D ad cI cB (Aw ad s.heap.size) _ ⟨B.exec, B.bytes, hml, hown, fun w hw => hts w (List.mem_cons_of_mem _ hw), hK, fun q h => Or.inr h, hSx, ⟨Nat.le_refl _, Nat.le_refl _, Nat.le_refl _, Nat.le_refl _⟩, B.notSynchronized⟩ hXs ?_ s.heap [] ls hP hD hS hl
  intro r1 σ1 e1 _ pc lv hd H locs ls1 hP1 hD1 hS1 hl1
  cases e1
  exact W.iret (v := r) B.exec B.bytes B.returns (fun t ht _ => ⟨⟨rfl, by rw [ht]; exact hP1, hD1⟩, hS1.F ht⟩) hS1.2.2 hd B.notSynchronized
section VSX
variable {p : Program} {l : Launch} {e : Env} {R : Room} {s : State} {m : MethodId} {args : Array Value} {below : List Frame} {meth : Method} {c : Code} {own : String} {cc : ByteArray} {nL d : Nat} {D : va_G} {ad : Nat → Nat} {cI cB : ClassId} {A : Nat → Prop} {cells slots : Nat} {Q : State → Prop} {σ : Sg} {pc : Nat} {lv : List (Nat × Value)} {st : List Value}
theorem C_SX (X : Cx p R s m args meth c own cc nL d D ad cI cB A cells slots) {bs L : Nat} {xs : Nat → Int32} (HX : va_X bs L xs s s.heap ∧ bs < s.heap.size ∧ ¬ A bs) {y : MethodName} {b : ByteArray} {mL : Nat} {ret : Option FieldType} {n dc idx : Nat} {rv : (Nat → Nat) → Option Value} {av : (Nat → Nat) → List Value} (As : List Value) {rest : List Value} (mt : Mt y b mL ret n) (ms : Cond.static y ∈ gtbl) (ml : Cond.methodLink own idx y ∈ gtbl) (hE : EvX y b mL ret dc av σ rv bs L xs) (hav : av ad = As) (hn : As.length = n) (hdc : dc + 1 ≤ d) (hr8 : (rest.map fun v => v.category).sum ≤ 8) (hd : decode cc pc = .ok (.invokestatic idx, 3)) :
    CallOK p l e R s m args below meth c nL D ad cI cB A cells slots σ σ pc (As.reverse ++ rest) rest (rv ad) := by
  intro H locs ls hP hD hS hsz
  have hM := hE l D ad cI cB H.size
  rw [hav] at hM
  have hpre : ∀ U : State, U.heap = H → s.WarmedH U.vm → PreX D ad cI cB (wl ad cI cB σ) H.size As bs L xs As.toArray U := fun U hU hW => ⟨jv_pre X hP hD hS U hU hW, by rw [hU]; exact va_X.moved hW.alike (HX.1.kept (hS.2.1 bs HX.2.1 HX.2.2)), by rw [hU]; exact Nat.lt_of_lt_of_le HX.2.1 hS.1, fun z => HX.2.2 (jv_AwA hP hD hS X.2.2.2.2.2.2.1 bs z)⟩
  exact ⟨_, va_runS (As := As) (rest := rest) ⟨X.1, X.2.1, X.2.2.1, X.2.2.2.1, X.2.2.2.2.1⟩ hM ⟨jv_callB X mt hdc (X.2.2.2.2.1 _ ml), X.2.2.2.2.1 _ ms⟩ ⟨PreX.blind, hpre⟩ rfl hn hsz rfl (by simpa [JFrame.monitorRoom] using hr8) hd ⟨X.2.2.2.2.2.2.2.2.1.2.2.1, X.2.2.2.2.2.2.2.2.1.2.2.2⟩⟩
end VSX
