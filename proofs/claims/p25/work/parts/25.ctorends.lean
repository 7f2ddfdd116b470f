section VCEND
variable {p : Program} {l : Launch} {e : Env} {R : Room} {s : State} {m : MethodId} {args : Array Value} {below : List Frame} {meth : Method} {c : Code} {own : String} {cc : ByteArray} {nL d : Nat} {D : va_G} {ad : Nat → Nat} {cI cB : ClassId} {z0 mc ms cells slots : Nat} {Q : State → Prop} {S : Nat → Nat → Bool} {N : Nat} {pc : Nat} {lv lv' : List (Nat × Value)} {st : List Value}
theorem VC_widen {k n : Nat} (h1 : cells ≤ k) (h2 : slots ≤ n) (kk : VC p l e R s m args below meth c nL D ad cI cB z0 k n Q S N pc lv st) : VC p l e R s m args below meth c nL D ad cI cB z0 cells slots Q S N pc lv st :=
  fun H locs ls hz hP hS hl => W.widen h1 h2 (kk H locs ls hz hP hS hl)
def CallC (p : Program) (l : Launch) (e : Env) (R : Room) (s : State) (m : MethodId) (args : Array Value) (below : List Frame) (meth : Method) (c : Code) (nL : Nat) (D : va_G) (ad : Nat → Nat) (cI cB : ClassId) (z0 cells slots mc1 ms1 : Nat) (S S' : Nat → Nat → Bool) (N N' pc : Nat) (st rest : List Value) : Prop :=
  ∀ (H : Heap) (locs : List Loc) (ls : Array Slot), H.size = z0 + N → va_P D classes (wc ad cI cB S N) H → va_S (fun q => z0 ≤ q) s.heap H locs → ls.size = nL → ∃ a : Array Value, va_Run p l e R s m args below meth c H locs cells slots mc1 ms1 (F0 m pc ls st) rest (PstC D ad cI cB S' N' z0 a) (fun q => z0 ≤ q)
theorem VC_call (X : CC p R s m args meth c own cc nL d D ad cI cB z0 mc ms) {mc1 ms1 N' : Nat} {S' : Nat → Nat → Bool} {rest : List Value} (hc : CallC p l e R s m args below meth c nL D ad cI cB z0 cells slots mc1 ms1 S S' N N' pc st rest)
    (kk : VC p l e R s m args below meth c nL D ad cI cB z0 (cells + mc1) (slots + ms1) Q S' N' (pc + 3) lv rest) : VC p l e R s m args below meth c nL D ad cI cB z0 cells slots Q S N pc lv st := by
  intro H locs ls hz0 hP hS hl T hT Y
  obtain ⟨a, hr⟩ := hc H locs ls hz0 hP hS hl.1
  obtain ⟨v, st₀, t, T', LL, h0, Y', hL, e1, e2, ⟨⟨hv, hsz, hP1⟩, hz, hk⟩, stp⟩ := hr T hT Y
  cases hv
  rw [h0] at hz hk
  obtain ⟨t2, a1, b1⟩ := kk T'.heap (locs ++ LL) ls (by rw [e1]; exact hsz) (by rw [e1]; exact hP1)
    ⟨Nat.le_trans hS.1 (by rw [e1]; exact hz), fun q h1 h2 => by rw [e1, hk q (Nat.lt_of_lt_of_le h1 hS.1) h2]; exact hS.2.1 q h1 h2, fun q hq => by
      rcases List.mem_append.mp hq with h | h
      · exact hS.2.2 q h
      · exact hL q h⟩ hl T' rfl Y'
  exact ⟨t2, stp t2 a1, b1⟩
theorem vc_pre (X : CC p R s m args meth c own cc nL d D ad cI cB z0 mc ms) {H : Heap} {locs : List Loc} {av : List Value} (hz : H.size = z0 + N) (hP : va_P D classes (wc ad cI cB S N) H) (hS : va_S (fun q => z0 ≤ q) s.heap H locs) : ∀ U : State, U.heap = H → s.WarmedH U.vm → PreC D ad cI cB S N z0 av av.toArray U :=
  fun U hU hW => ⟨rfl, by rw [hU]; exact hz, by rw [hU]; exact hP, va_K.moved hW.alike X.1.2.2.2.2.2.1, X.1.2.2.2.2.2.2.2.1.go hS hU hW (fun _ h => h)⟩
theorem VC_run (X : CC p R s m args meth c own cc nL d D ad cI cB z0 mc ms) {y : MethodName} {b : ByteArray} {mL n dc idx k mc1 ms1 N' : Nat} {S' : Nat → Nat → Bool} {av : (Nat → Nat) → List Value} (As : List Value) {rest : List Value} (mt : Mt y b mL none n) (hi : Cond.instanceMethod y ∈ gtbl) (ml : Cond.methodLink own idx y ∈ gtbl) (hE : EvC y b mL dc mc1 ms1 av N N' S S') (hav : av ad = .ref (ad k) :: As) (hn : As.length = n) (hyn : y.name = "<init>") (hdc : dc + 1 ≤ d) (h1 : cells + mc1 ≤ mc) (h2 : slots + ms1 ≤ ms) (hr8 : (rest.map fun v => v.category).sum ≤ 8) (hd : decode cc pc = .ok (.invokespecial idx, 3)) :
    CallC p l e R s m args below meth c nL D ad cI cB z0 cells slots mc1 ms1 S S' N N' pc (As.reverse ++ .ref (ad k) :: rest) rest := by
  intro H locs ls hz hP hS hsz
  have hM := hE l D ad cI cB z0 X.2.1
  rw [hav] at hM
  exact ⟨_, va_runI (As := As) (rest := rest) ⟨X.1.1, X.1.2.1, X.1.2.2.1, X.1.2.2.2.1, X.1.2.2.2.2.1⟩ hM (cwI n X.1.2.2.2.2.1 (jv_good mt.1) rfl rfl rfl (X.1.2.2.2.2.1 _ mt.2.1) (X.1.2.2.2.2.1 _ ml) (X.1.2.2.2.2.1 _ hi) hyn ⟨mt.2.2.1.1, mt.2.2.1.2, mt.2.2.2.1⟩ ⟨Nat.le_trans hdc X.1.2.2.2.2.2.2.2.2.1.1, by
    have h3 := X.1.2.2.2.2.2.2.2.2.1.2.1
    have h4 := mt.2.2.2.2
    show 8 + (mL + 11) + 38 * dc ≤ R.locals
    omega⟩) ⟨PreC.blind, vc_pre X hz hP hS⟩ rfl hn hsz rfl (by simpa [JFrame.monitorRoom] using hr8) hd ⟨Nat.le_trans h1 X.1.2.2.2.2.2.2.2.2.1.2.2.1, Nat.le_trans h2 X.1.2.2.2.2.2.2.2.2.1.2.2.2⟩⟩
theorem VC_runN (X : CC p R s m args meth c own cc nL d D ad cI cB z0 mc ms) {y : MethodName} {b : ByteArray} {mL n dc idx k mc1 ms1 N' : Nat} {host : String} {S' : Nat → Nat → Bool} {av : (Nat → Nat) → List Value} (As : List Value) {rest : List Value} (mt : Mt y b mL none n) (hi : Cond.instanceMethod y ∈ gtbl) (ml : Cond.methodLinkNest own idx y host ∈ lw_tbl) (hE : EvC y b mL dc mc1 ms1 av N N' S S') (hav : av ad = .ref (ad k) :: As) (hn : As.length = n) (hyn : y.name = "<init>") (hdc : dc + 1 ≤ d) (h1 : cells + mc1 ≤ mc) (h2 : slots + ms1 ≤ ms) (hr8 : (rest.map fun v => v.category).sum ≤ 8) (hd : decode cc pc = .ok (.invokespecial idx, 3)) :
    CallC p l e R s m args below meth c nL D ad cI cB z0 cells slots mc1 ms1 S S' N N' pc (As.reverse ++ .ref (ad k) :: rest) rest := by
  intro H locs ls hz hP hS hsz
  have hM := hE l D ad cI cB z0 X.2.1
  rw [hav] at hM
  exact ⟨_, va_runIN (As := As) (rest := rest) ⟨X.1.1, X.1.2.1, X.1.2.2.1, X.1.2.2.2.1, X.1.2.2.2.2.1⟩ hM ⟨va_cnB n X.1.2.2.2.2.1 (jv_good mt.1) rfl rfl rfl (X.1.2.2.2.2.2.2.2.1.1 _ _ _ _ ml) (X.1.2.2.2.2.1 _ mt.2.1) ⟨mt.2.2.1.1, mt.2.2.1.2, mt.2.2.2.1⟩ ⟨Nat.le_trans hdc X.1.2.2.2.2.2.2.2.2.1.1, by
    have h3 := X.1.2.2.2.2.2.2.2.2.1.2.1
    have h4 := mt.2.2.2.2
    show 8 + (mL + 11) + 38 * dc ≤ R.locals
    omega⟩, hyn, X.1.2.2.2.2.1 _ hi⟩ ⟨PreC.blind, vc_pre X hz hP hS⟩ rfl hn hsz rfl (by simpa [JFrame.monitorRoom] using hr8) hd ⟨Nat.le_trans h1 X.1.2.2.2.2.2.2.2.2.1.2.2.1, Nat.le_trans h2 X.1.2.2.2.2.2.2.2.2.1.2.2.2⟩⟩
end VCEND
theorem EvC_of {y : MethodName} {b : ByteArray} {mL d mc ms N N' : Nat} {S S' : Nat → Nat → Bool} {av : (Nat → Nat) → List Value} (hy : plainName y.cls = true) (hyn : y.name = "<init>") (hlen : ∀ ad, (lg_sl (av ad)).length ≤ mL)
    (body : ∀ (p : Program) (l : Launch) (e : Env) (R : Room) (s : State) (m : MethodId) (args : Array Value) (below : List Frame) (meth : Method) (c : Code) (D : va_G) (ad : Nat → Nat) (cI cB : ClassId) (z0 : Nat) (Q : State → Prop), CC p R s m args meth c y.cls b mL d D ad cI cB z0 mc ms → meth.name = "<init>" →
      (∀ (pc : Nat) (lv : List (Nat × Value)), decode b pc = .ok (.return_, 1) → VC p l e R s m args below meth c mL D ad cI cB z0 mc ms Q S' N' pc lv []) →
      VC p l e R s m args below meth c mL D ad cI cB z0 0 0 Q S N 0 (lv_args 0 (av ad)) []) : EvC y b mL d mc ms av N N' S S' := by
  intro l D ad cI cB z0 had
  refine Met.ofW (cc := b) (maxL := mL) (ret := none) hy rfl ?_
  intro p e s m args below meth c s₁ B hml hv
  obtain ⟨rfl, hsz, hP, hK, hSx⟩ := hv
  have hts := atoms_spec (ws := Cond.code y b mL none :: gtbl) B.pre
  have hown : s.vm.findClass y.cls = some m.cls := findClass_of_methodNamed B.named
  have hin : meth.name = "<init>" := (name_of_methodNamed B.named B.method).1.trans hyn
  have hS : va_S (fun q => z0 ≤ q) s.heap s.heap [] := va_S.rf
  have hl := lv_entry (av ad) (n := mL) (hlen ad)
  rw [lg_entry_eq]
  generalize (lg_sl (av ad) ++ List.replicate (mL - (lg_sl (av ad)).length) Slot.unset).toArray = ls at hl ⊢
  refine body p l e _ s m _ below meth c D ad cI cB z0 _ ⟨⟨B.exec, B.bytes, hml, hown, fun w hw => hts w (List.mem_cons_of_mem _ hw), hK, fun q h => by show z0 ≤ q; omega, hSx, ⟨Nat.le_refl _, Nat.le_refl _, Nat.le_refl _, Nat.le_refl _⟩, B.notSynchronized⟩, had, by omega⟩ hin ?_ s.heap [] ls hsz hP hS hl
  intro pc lv hd H locs ls1 hz1 hP1 hS1 hl1
  exact W.vret B.exec B.bytes B.returns (fun t ht _ => ⟨⟨rfl, by rw [ht]; exact hz1, by rw [ht]; exact hP1⟩, hS1.F ht⟩) hS1.2.2 hd B.notSynchronized
