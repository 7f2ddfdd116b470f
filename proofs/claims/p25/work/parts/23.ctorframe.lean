/-! THE CONSTRUCTORS: cells come one behind another; S says which references are set -/
def setS (S : Nat → Nat → Bool) (k j : Nat) : Nat → Nat → Bool := fun a b => if a = k ∧ b = j then true else S a b
def fresh (S : Nat → Nat → Bool) (N : Nat) : Prop := ∀ k j, N ≤ k → S k j = false
theorem fresh_set {S : Nat → Nat → Bool} {N k j : Nat} (h : fresh S N) (hk : k < N) : fresh (setS S k j) N := by
  intro a b ha
  simp only [setS]
  rw [if_neg (by omega)]
  exact h a b ha
theorem fresh_mono {S : Nat → Nat → Bool} {N N' : Nat} (h : fresh S N) (hN : N ≤ N') : fresh S N' := fun k j hk => h k j (by omega)
def cv (ad : Nat → Nat) (S : Nat → Nat → Bool) (c k j : Nat) : Value := if jv_ty c j = 0 then .int 0 else if jv_ty c j = 1 then (if S k j = true then .ref (ad (jv_rf k j)) else .null) else .long 0
def cfs (ad : Nat → Nat) (S : Nat → Nat → Bool) (c k : Nat) : List Value := (List.range (jv_nf c)).map (cv ad S c k)
def cce (ad : Nat → Nat) (cI cB : ClassId) (S : Nat → Nat → Bool) (k : Nat) : va_E := if jv_cls k = 100 then .inl (cI, jv_ln k, .inl (fun _ => 0)) else if jv_cls k = 101 then .inl (cB, jv_ln k, .inl (fun _ => 0)) else .inr (jv_cls k, cfs ad S (jv_cls k) k)
def wc (ad : Nat → Nat) (cI cB : ClassId) (S : Nat → Nat → Bool) (N : Nat) : va_W := (List.range N).map (fun k => (ad k, cce ad cI cB S k))
theorem wc_get {ad : Nat → Nat} {cI cB : ClassId} {S : Nat → Nat → Bool} {N k : Nat} (hk : k < N) : (wc ad cI cB S N)[k]? = some (ad k, cce ad cI cB S k) := by
  simp [wc, hk]
theorem wc_out {ad : Nat → Nat} {cI cB : ClassId} {S : Nat → Nat → Bool} {N k : Nat} {q : Nat × va_E} (h : (wc ad cI cB S N)[k]? = some q) : k < N ∧ q = (ad k, cce ad cI cB S k) := by
  have hk : k < N := by
    have h1 := (List.getElem?_eq_some_iff.mp h).1
    simpa [wc] using h1
  rw [wc_get hk] at h
  exact ⟨hk, (Option.some.inj h).symm⟩
theorem wc_D {ad : Nat → Nat} {cI cB : ClassId} {S : Nat → Nat → Bool} {N z0 : Nat} (had : ∀ k, k < 93 → ad k = z0 + k) (hN : N ≤ 93) : va_D (fun q => z0 ≤ q) (wc ad cI cB S N) := by
  refine ⟨fun i j p q hi hj hpq => ?_, fun k q h => ?_⟩
  · obtain ⟨h1, rfl⟩ := wc_out hi
    obtain ⟨h2, rfl⟩ := wc_out hj
    have e : ad i = ad j := hpq
    rw [had i (by omega), had j (by omega)] at e
    omega
  · obtain ⟨h1, rfl⟩ := wc_out h
    show z0 ≤ ad k
    rw [had k (by omega)]
    omega
theorem wc_push {ad : Nat → Nat} {cI cB : ClassId} {S : Nat → Nat → Bool} {N : Nat} : wc ad cI cB S (N + 1) = wc ad cI cB S N ++ [(ad N, cce ad cI cB S N)] := by
  simp [wc, List.range_succ]
theorem wc_set {ad : Nat → Nat} {cI cB : ClassId} {S S' : Nat → Nat → Bool} {N k : Nat} {e : va_E} (hk : k < N) (h1 : cce ad cI cB S' k = e) (h2 : ∀ j, j ≠ k → cce ad cI cB S' j = cce ad cI cB S j) : (wc ad cI cB S N).set k (ad k, e) = wc ad cI cB S' N := by
  apply List.ext_getElem?
  intro j
  by_cases hj : j < N
  · rw [wc_get hj, List.getElem?_set]
    by_cases e1 : k = j
    · subst e1
      simp [wc, hk, h1]
    · rw [if_neg e1, wc_get hj, h2 j (Ne.symm e1)]
  · rw [List.getElem?_eq_none (by simp [wc]; omega), List.getElem?_eq_none (by simp [wc]; omega)]
theorem cce_O {ad : Nat → Nat} {cI cB : ClassId} {S : Nat → Nat → Bool} {k c : Nat} (hc : jv_cls k = c) (h : c < 11) : cce ad cI cB S k = .inr (c, cfs ad S c k) := by
  subst hc
  rw [cce, if_neg (by omega), if_neg (by omega)]
theorem cce_other {ad : Nat → Nat} {cI cB : ClassId} {S : Nat → Nat → Bool} {k j i : Nat} (h : i ≠ k) : cce ad cI cB (setS S k j) i = cce ad cI cB S i := by
  have e : cfs ad (setS S k j) (jv_cls i) i = cfs ad S (jv_cls i) i := by
    have e0 : cv ad (setS S k j) (jv_cls i) i = cv ad S (jv_cls i) i := by
      funext b
      simp [cv, setS, h]
    rw [cfs, cfs, e0]
  rw [cce, cce, e]
theorem cfs_at {ad : Nat → Nat} {S : Nat → Nat → Bool} {c k j : Nat} (hj : j < jv_nf c) : (cfs ad S c k)[j]? = some (cv ad S c k j) := by
  simp [cfs, hj]
theorem cfs_set {ad : Nat → Nat} {S : Nat → Nat → Bool} {c k j : Nat} (hj : j < jv_nf c) (ht : jv_ty c j = 1) : (cfs ad S c k).set j (.ref (ad (jv_rf k j))) = cfs ad (setS S k j) c k := by
  apply List.ext_getElem?
  intro i
  by_cases hi : i < jv_nf c
  · rw [cfs_at hi, List.getElem?_set]
    by_cases e1 : j = i
    · subst e1
      simp [cfs, hj, cv, ht, setS]
    · rw [if_neg e1, cfs_at hi]
      simp [cv, setS, Ne.symm e1]
  · rw [List.getElem?_eq_none (by simp [cfs]; omega), List.getElem?_eq_none (by simp [cfs]; omega)]
def PreC (D : va_G) (ad : Nat → Nat) (cI cB : ClassId) (S : Nat → Nat → Bool) (N z0 : Nat) (av : List Value) : Array Value → State → Prop :=
  va_Pc av (fun U => U.heap.size = z0 + N ∧ va_P D classes (wc ad cI cB S N) U.heap ∧ va_K D classes [(cI, .int), (cB, .byte)] U ∧ Sx ad (fun q => z0 ≤ q) U)
def PstC (D : va_G) (ad : Nat → Nat) (cI cB : ClassId) (S : Nat → Nat → Bool) (N z0 : Nat) : Array Value → State → Outcome → State → Prop :=
  fun _ st oc t => (oc = .returned none ∧ t.heap.size = z0 + N ∧ va_P D classes (wc ad cI cB S N) t.heap) ∧ va_F (fun q => z0 ≤ q) st t
theorem PreC.blind {D : va_G} {ad : Nat → Nat} {cI cB : ClassId} {S : Nat → Nat → Bool} {N z0 : Nat} {av : List Value} : FrameBlind (PreC D ad cI cB S N z0 av) :=
  fun a U g mk q => ⟨q.1, q.2.1, q.2.2.1, va_K.moved (u := U) (U := U.calling g mk a) (Vm.Alike.refl U.vm) q.2.2.2.1, q.2.2.2.2.calling g mk a⟩
def EvC (y : MethodName) (b : ByteArray) (mL d mc ms : Nat) (av : (Nat → Nat) → List Value) (N N' : Nat) (S S' : Nat → Nat → Bool) : Prop :=
  ∀ (l : Launch) (D : va_G) (ad : Nat → Nat) (cI cB : ClassId) (z0 : Nat), (∀ k, k < 93 → ad k = z0 + k) → Met l y (Cond.code y b mL none :: gtbl) { frames := d, cells := mc, slots := ms, locals := 38 * d } (PreC D ad cI cB S N z0 (av ad)) (PstC D ad cI cB S' N' z0) mc ms (fun q => z0 ≤ q)
def VC (p : Program) (l : Launch) (e : Env) (R : Room) (s : State) (m : MethodId) (args : Array Value) (below : List Frame) (meth : Method) (c : Code) (nL : Nat) (D : va_G) (ad : Nat → Nat) (cI cB : ClassId) (z0 : Nat) (cells slots : Nat) (Q : State → Prop) (S : Nat → Nat → Bool) (N : Nat) (pc : Nat) (lv : List (Nat × Value)) (st : List Value) : Prop :=
  ∀ (H : Heap) (locs : List Loc) (ls : Array Slot), H.size = z0 + N → va_P D classes (wc ad cI cB S N) H → va_S (fun q => z0 ≤ q) s.heap H locs → lv_has ls nL lv → W p l e R s m args below meth c H locs cells slots Q (F0 m pc ls st)
/-- what a constructor's body knows: Cx with its totals of cells and slots, and how cells lie -/
def CC (p : Program) (R : Room) (s : State) (m : MethodId) (args : Array Value) (meth : Method) (c : Code) (own : String) (cc : ByteArray) (nL d : Nat) (D : va_G) (ad : Nat → Nat) (cI cB : ClassId) (z0 mc ms : Nat) : Prop :=
  Cx p R s m args meth c own cc nL d D ad cI cB (fun q => z0 ≤ q) mc ms ∧ (∀ k, k < 93 → ad k = z0 + k) ∧ z0 ≤ s.heap.size
section VCROWS
variable {p : Program} {l : Launch} {e : Env} {R : Room} {s : State} {m : MethodId} {args : Array Value} {below : List Frame} {meth : Method} {c : Code} {own : String} {cc : ByteArray} {nL d : Nat} {D : va_G} {ad : Nat → Nat} {cI cB : ClassId} {z0 mc ms cells slots : Nat} {Q : State → Prop} {S : Nat → Nat → Bool} {N : Nat} {pc : Nat} {lv lv' : List (Nat × Value)} {st : List Value}
theorem VC_sub (ks : List Nat) (h : lv_pick lv ks = lv') (k : VC p l e R s m args below meth c nL D ad cI cB z0 cells slots Q S N pc lv' st) : VC p l e R s m args below meth c nL D ad cI cB z0 cells slots Q S N pc lv st :=
  fun H locs ls hz hP hS hl => k H locs ls hz hP hS (lv_sub hl ks h)
theorem VC_iconst (X : CC p R s m args meth c own cc nL d D ad cI cB z0 mc ms) {n : Int} {v : Int32} (hd : decode cc pc = .ok (.iconst n, 1)) (hv : Int32.ofInt n = v) (k : VC p l e R s m args below meth c nL D ad cI cB z0 cells slots Q S N (pc + 1) lv (.int v :: st)) : VC p l e R s m args below meth c nL D ad cI cB z0 cells slots Q S N pc lv st :=
  fun H locs ls hz hP hS hl => lv_iconst X.1.1 X.1.2.1 hd hv (k H locs ls hz hP hS hl)
theorem VC_bipush (X : CC p R s m args meth c own cc nL d D ad cI cB z0 mc ms) {n : Int} {v : Int32} (hd : decode cc pc = .ok (.bipush n, 2)) (hv : (Int8.ofInt n).toInt32 = v) (k : VC p l e R s m args below meth c nL D ad cI cB z0 cells slots Q S N (pc + 2) lv (.int v :: st)) : VC p l e R s m args below meth c nL D ad cI cB z0 cells slots Q S N pc lv st :=
  fun H locs ls hz hP hS hl => lv_bipush X.1.1 X.1.2.1 hd hv (k H locs ls hz hP hS hl)
theorem VC_sipush (X : CC p R s m args meth c own cc nL d D ad cI cB z0 mc ms) {n : Int} {v : Int32} (hd : decode cc pc = .ok (.sipush n, 3)) (hv : (Int16.ofInt n).toInt32 = v) (k : VC p l e R s m args below meth c nL D ad cI cB z0 cells slots Q S N (pc + 3) lv (.int v :: st)) : VC p l e R s m args below meth c nL D ad cI cB z0 cells slots Q S N pc lv st :=
  fun H locs ls hz hP hS hl => lv_sipush X.1.1 X.1.2.1 hd hv (k H locs ls hz hP hS hl)
theorem VC_iload_n (X : CC p R s m args meth c own cc nL d D ad cI cB z0 mc ms) {i : Fin 4} (q : Nat) {x : Int32} (hd : decode cc pc = .ok (.iload_n i, 1)) (hq : lv[q]? = some ((i : Nat), .int x)) (k : VC p l e R s m args below meth c nL D ad cI cB z0 cells slots Q S N (pc + 1) lv (.int x :: st)) : VC p l e R s m args below meth c nL D ad cI cB z0 cells slots Q S N pc lv st :=
  fun H locs ls hz hP hS hl => lv_iload_n X.1.1 X.1.2.1 hd rfl (lv_at hl q hq) (k H locs ls hz hP hS hl)
theorem VC_aload_n (X : CC p R s m args meth c own cc nL d D ad cI cB z0 mc ms) {i : Fin 4} (q : Nat) {x : Nat} (hd : decode cc pc = .ok (.aload_n i, 1)) (hq : lv[q]? = some ((i : Nat), .ref x)) (k : VC p l e R s m args below meth c nL D ad cI cB z0 cells slots Q S N (pc + 1) lv (.ref x :: st)) : VC p l e R s m args below meth c nL D ad cI cB z0 cells slots Q S N pc lv st :=
  fun H locs ls hz hP hS hl => lv_aload_n X.1.1 X.1.2.1 hd rfl (lv_at hl q hq) (k H locs ls hz hP hS hl)
theorem VC_astore_n (X : CC p R s m args meth c own cc nL d D ad cI cB z0 mc ms) {i : Fin 4} {x : Nat} (lv' : List (Nat × Value)) (hd : decode cc pc = .ok (.astore_n i, 1)) (hn : (i : Nat) < nL) (hl' : ((i : Nat), Value.ref x) :: lv.filter (fun q => !(q.1 == (i : Nat)) && !(q.1 + 1 == (i : Nat) && q.2.category == 2)) = lv') (k : VC p l e R s m args below meth c nL D ad cI cB z0 cells slots Q S N (pc + 1) lv' st) : VC p l e R s m args below meth c nL D ad cI cB z0 cells slots Q S N pc lv (.ref x :: st) :=
  fun H locs ls hz hP hS hl => lv_astore_n X.1.1 X.1.2.1 hd rfl hl hn hl' (fun ls hl => k H locs ls hz hP hS hl)
theorem VC_istore_n (X : CC p R s m args meth c own cc nL d D ad cI cB z0 mc ms) {i : Fin 4} {x : Int32} (lv' : List (Nat × Value)) (hd : decode cc pc = .ok (.istore_n i, 1)) (hn : (i : Nat) < nL) (hl' : ((i : Nat), Value.int x) :: lv.filter (fun q => !(q.1 == (i : Nat)) && !(q.1 + 1 == (i : Nat) && q.2.category == 2)) = lv') (k : VC p l e R s m args below meth c nL D ad cI cB z0 cells slots Q S N (pc + 1) lv' st) : VC p l e R s m args below meth c nL D ad cI cB z0 cells slots Q S N pc lv (.int x :: st) :=
  fun H locs ls hz hP hS hl => lv_istore_n X.1.1 X.1.2.1 hd rfl hl hn hl' (fun ls hl => k H locs ls hz hP hS hl)
theorem VC_dup (X : CC p R s m args meth c own cc nL d D ad cI cB z0 mc ms) {v : Value} (hd : decode cc pc = .ok (.dup, 1)) (hv : v.category = 1) (k : VC p l e R s m args below meth c nL D ad cI cB z0 cells slots Q S N (pc + 1) lv (v :: v :: st)) : VC p l e R s m args below meth c nL D ad cI cB z0 cells slots Q S N pc lv (v :: st) :=
  fun H locs ls hz hP hS hl => lv_dup X.1.1 X.1.2.1 hd hv (k H locs ls hz hP hS hl)
theorem VC_if_geT (X : CC p R s m args meth c own cc nL d D ad cI cB z0 mc ms) {x : Int32} {off : Int} (tgt : Nat) (hd : decode cc pc = .ok (.ifCond .ge off, 3)) (ht : (pc : Int) + off = (tgt : Int)) (hx : 0 ≤ x) (k : VC p l e R s m args below meth c nL D ad cI cB z0 cells slots Q S N tgt lv st) : VC p l e R s m args below meth c nL D ad cI cB z0 cells slots Q S N pc lv (.int x :: st) :=
  fun H locs ls hz hP hS hl => lv_if_ge X.1.1 X.1.2.1 hd ht (fun q => k H locs ls hz hP hS hl) (fun q => absurd hx q)
theorem VC_objInit (X : CC p R s m args meth c own cc nL d D ad cI cB z0 mc ms) {idx a : Nat} (ml : Cond.methodLink own idx Lib.objectInit ∈ gtbl) (hd : decode cc pc = .ok (.invokespecial idx, 3)) (h1 : 1 ≤ d) (hi : Cond.instanceMethod Lib.objectInit ∈ gtbl) (hc : Cond.code Lib.objectInit ⟨#[0xb1]⟩ 1 none ∈ gtbl) (k : VC p l e R s m args below meth c nL D ad cI cB z0 cells slots Q S N (pc + 3) lv []) : VC p l e R s m args below meth c nL D ad cI cB z0 cells slots Q S N pc lv [.ref a] :=
  fun H locs ls hz hP hS hl => W.objInit X.1.1 X.1.2.1 X.1.2.2.2.1 (X.1.2.2.2.2.1 _ ml) (X.1.2.2.2.2.1 _ hi) (X.1.2.2.2.2.1 _ hc) rfl (hl.1.trans X.1.2.2.1.symm) rfl hd (Nat.le_trans h1 X.1.2.2.2.2.2.2.2.2.1.1) (by
    have h2 := X.1.2.2.2.2.2.2.2.2.1.2.1
    show 2 * 0 + 0 + 12 ≤ R.locals
    omega) (k H locs ls hz hP hS hl)
theorem VC_new (X : CC p R s m args meth c own cc nL d D ad cI cB z0 mc ms) (q : Nat) {C : String} {T : u_T} {F idx : Nat} {ty : Nat → FieldType} (hq : classes[q]? = some (C, T, F)) (hin : ∀ w ∈ u_ws C T F, w ∈ gtbl) (hty : ∀ k, k < F → parseFieldDescriptor (T k).2.2.1 = some (ty k)) (hF : F = jv_nf q) (hdf : ∀ j, j < F → defaultValue (ty j) = (if jv_ty q j = 0 then .int 0 else if jv_ty q j = 1 then .null else .long 0)) (hl : Cond.classLink own idx C ∈ gtbl) (hi : Cond.instantiable C F ∈ gtbl) (hn : Cond.initialized C ∈ gtbl) (hd : decode cc pc = .ok (.new idx, 3)) (hN : N < 93) (hc : jv_cls N = q) (hq11 : q < 11) (hf : fresh S N) (h1 : cells + 1 ≤ mc) (h2 : slots + F ≤ ms)
    (kk : VC p l e R s m args below meth c nL D ad cI cB z0 (cells + 1) (slots + F) Q S (N + 1) (pc + 3) lv (.ref (ad N) :: st)) : VC p l e R s m args below meth c nL D ad cI cB z0 cells slots Q S N pc lv st := by
  intro H locs ls hz hP hS hl'
  have hKn := X.1.2.2.2.2.2.1.1 q _ hq
  refine W.newcK X.1.1 X.1.2.1 X.1.2.2.2.1 (X.1.2.2.2.2.1 _ hl) (X.1.2.2.2.2.1 _ hi) (X.1.2.2.2.2.1 _ hn) rfl hd (Nat.le_trans h1 X.1.2.2.2.2.2.2.2.2.1.2.2.1) (Nat.le_trans h2 X.1.2.2.2.2.2.2.2.2.1.2.2.2) hKn.2.1 hz fun H1 kC hkC e1 z1 o1 => ?_
  have e0 : z0 + N = ad N := (X.2.1 N hN).symm
  rw [e0] at e1 ⊢
  have hk : ∀ (k : Nat) (x : Nat × va_E), (wc ad cI cB S N)[k]? = some x → H1[x.1]? = H[x.1]? := fun k x hx => o1 x.1 (by rw [← hz]; exact (hP k x hx).lt)
  refine kk H1 locs ls (by omega) ?_ ⟨Nat.le_trans hS.1 (by omega), fun x h3 h4 => (o1 x (by have := hS.1; omega)).trans (hS.2.1 x h3 h4), hS.2.2⟩ hl'
  rw [wc_push]
  refine (hP.kept hk).app (fun k x hx => ?_)
  have hz1 : k < 1 := (List.getElem?_eq_some_iff.mp hx).1
  rw [show k = 0 by omega] at hx
  cases hx
  rw [cce_O hc hq11]
  refine ⟨_, hq, (u_born ty X.1.2.2.2.2.1 hin hKn hkC e1 hty).to (fun j hj => ?_)⟩
  have hj' : j < jv_nf q := by omega
  rw [hdf j hj]
  show _ = (cfs ad S q N).getD j .null
  rw [List.getD_eq_getElem?_getD, cfs_at hj', Option.getD_some, cv]
  have hSf : S N j = false := hf N j (Nat.le_refl N)
  simp [hSf]
theorem VC_newa (X : CC p R s m args meth c own cc nL d D ad cI cB z0 mc ms) {atype : ArrayType} {ty : FieldType} {t0 : Nat} {cA : ClassId} {n : Int32} {n' : Nat} (harr : Cond.arrayClass (newarray.typeOf atype) ∈ gtbl) (hty : newarray.typeOf atype = ty) (ht0 : ([(cI, FieldType.int), (cB, FieldType.byte)] : List (ClassId × FieldType))[t0]? = some (cA, ty)) (hname : ∀ q, va_RA s q ty → s.vm.findClass ("[" ++ ty.toString) = some q) (hdv : defaultValue ty = .int 0) (hn : ¬ n < 0) (hN' : n.toNatClampNeg = n') (hcb : n' * componentBytes ty ≤ 536870912) (hd : decode cc pc = .ok (.newarray atype, 2)) (hN : N < 93) (hce : ∀ S, cce ad cI cB S N = .inl (cA, n', .inl (fun _ => 0))) (h1 : cells + 1 ≤ mc) (h2 : slots + n' ≤ ms)
    (kk : VC p l e R s m args below meth c nL D ad cI cB z0 (cells + 1) (slots + n') Q S (N + 1) (pc + 2) lv (.ref (ad N) :: st)) : VC p l e R s m args below meth c nL D ad cI cB z0 cells slots Q S N pc lv (.int n :: st) := by
  subst hty
  intro H locs ls hz hP hS hl'
  refine va_newaK X.1.1 X.1.2.1 (X.1.2.2.2.2.1 _ harr) rfl hd rfl hn hN' hcb (Nat.le_trans h1 X.1.2.2.2.2.2.2.2.2.1.2.2.1) (Nat.le_trans h2 X.1.2.2.2.2.2.2.2.2.1.2.2.2) hz fun H1 cA' e1 z1 o1 hAr hNm => ?_
  have e0 : z0 + N = ad N := (X.2.1 N hN).symm
  have hcA : cA' = cA := by
    have h3 := hname _ (X.1.2.2.2.2.2.1.2 t0 _ ht0).2
    exact Option.some.inj (hNm.symm.trans h3)
  subst hcA
  rw [e0] at e1 ⊢
  have hk : ∀ (k : Nat) (x : Nat × va_E), (wc ad cI cB S N)[k]? = some x → H1[x.1]? = H[x.1]? := fun k x hx => o1 x.1 (by rw [← hz]; exact (hP k x hx).lt)
  refine kk H1 locs ls (by omega) ?_ ⟨Nat.le_trans hS.1 (by omega), fun x h3 h4 => (o1 x (by have := hS.1; omega)).trans (hS.2.1 x h3 h4), hS.2.2⟩ hl'
  rw [wc_push]
  refine (hP.kept hk).app (fun k x hx => ?_)
  have hz1 : k < 1 := (List.getElem?_eq_some_iff.mp hx).1
  rw [show k = 0 by omega] at hx
  cases hx
  rw [hce]
  show H1[ad N]? = some (arrV _ n' (fun _ => .int 0))
  rw [e1, hdv]
theorem VC_putR (X : CC p R s m args meth c own cc nL d D ad cI cB z0 mc ms) (q j : Nat) {C : String} {T : u_T} {F idx k t : Nat} {ty : FieldType} {ty0 : Nat → FieldType} (hq : classes[q]? = some (C, T, F)) (hin : ∀ w ∈ u_ws C T F, w ∈ gtbl) (hty : ∀ k, k < F → parseFieldDescriptor (T k).2.2.1 = some (ty0 k)) (hnm : ∀ a, a < F → ∀ b, b < F → a ≠ b → (T a).2.1 ≠ (T b).2.1) (hj : j < F) (hn : j < jv_nf q) (ht : jv_ty q j = 1) (hfin : (T j).2.2.2 = true) (hinit : meth.name = "<init>") (hdecl : (T j).1 = own) (htd : parseFieldDescriptor (T j).2.2.1 = some ty) (hnar : narrow ty (.ref (ad t)) = .ref (ad t)) (hfit : fits ty (.ref (ad t)) = true) (hl : Cond.fieldLink own idx (T j).1 (T j).2.1 (T j).2.2.1 ∈ gtbl) (hd : decode cc pc = .ok (.putfield idx, 3)) (hk : k < N) (hN : N ≤ 93) (hc : jv_cls k = q) (hq11 : q < 11) (hr : jv_rf k j = t)
    (kk : VC p l e R s m args below meth c nL D ad cI cB z0 cells slots Q (setS S k j) N (pc + 3) lv st) : VC p l e R s m args below meth c nL D ad cI cB z0 cells slots Q S N pc lv (.ref (ad t) :: .ref (ad k) :: st) := by
  intro H locs ls hz hP hS hl'
  subst hr
  have hD : va_D (fun q => z0 ≤ q) (wc ad cI cB S N) := wc_D X.2.1 hN
  have e : (wc ad cI cB S N).set k (ad k, .inr (q, (cfs ad S q k).set j (.ref (ad (jv_rf k j))))) = wc ad cI cB (setS S k j) N := wc_set hk (by rw [cce_O hc hq11, cfs_set hn ht]) (fun i hi => cce_other hi)
  have hK := X.1.2.2.2.2.2.1
  have hts := X.1.2.2.2.2.1
  have hap := va_apart (own := own) hts hin ty0 hty hnm hK hq
  have he : (wc ad cI cB S N)[k]? = some (ad k, .inr (q, cfs ad S q k)) := by rw [wc_get hk, cce_O hc hq11]
  obtain ⟨r, h1, cell, q1, q2, q3, q4⟩ := hP k _ he
  have hrr : r = (C, T, F) := Option.some.inj (h1.symm.trans hq)
  subst hrr
  obtain ⟨hSl, hfc, kC, hkC, hkind⟩ := hK.1 q _ hq
  obtain ⟨cf, kf, fi, f, hi, hsl⟩ := hSl j hj
  have hlay := hts _ (hin _ (u_in_lay hj))
  unfold u_lay at hlay
  rw [if_pos hfin] at hlay
  have hst := (u_facts hfc hkC (u_lays hts hin hj) hi).1
  have hcf : m.cls = cf := by
    obtain ⟨_, _, c', _, _, _, -, -, hf', -, -, -, hown2, -⟩ := Cond.laysFinal_spec hlay
    have e1 : c' = cf := by have := hi.symm.trans hf'; simp at this; exact this.1.symm
    rw [hdecl] at hown2
    rw [← e1]; exact Option.some.inj (X.1.2.2.2.1.symm.trans hown2)
  have h6 := u_fits hfc hkC hkind (Or.inr hlay) hi htd hnar hfit
  refine W.putFinK X.1.1 X.1.2.1 X.1.2.2.2.1 (X.1.2.2.2.2.1 _ hl) hi hst hcf hinit (by rw [q2]; exact h6) q1 q3 (by rw [hsl]; exact k2_hasslot (q4 j hj)) rfl rfl hd fun H' e1 e2 e3 => ?_
  rw [hsl] at e1 ⊢
  have hlen : j < (cfs ad S q k).length := by simp [cfs, hn]
  have hP1 := hP.set hD he (e := .inr (q, (cfs ad S q k).set j (.ref (ad (jv_rf k j))))) ⟨_, hq, t_OB.to (V := updV (vp_V (cfs ad S q k)) j (.ref (ad (jv_rf k j)))) ⟨_, e1, q2, q3, t_set q4 hap hj _⟩ (fun i _ => vp_updV_set hlen _ i)⟩ e3
  rw [e] at hP1
  exact kk H' _ ls (by rw [e2]; exact hz) hP1 (hS.put e2 e3 (hD.2 k _ he)) hl'
theorem VC_getR (X : CC p R s m args meth c own cc nL d D ad cI cB z0 mc ms) (q j t : Nat) {C : String} {T : u_T} {F idx k : Nat} (hq : classes[q]? = some (C, T, F)) (hin : ∀ w ∈ u_ws C T F, w ∈ gtbl) (hj : j < F) (hn : j < jv_nf q) (ht : jv_ty q j = 1) (hl : Cond.fieldLink own idx (T j).1 (T j).2.1 (T j).2.2.1 ∈ gtbl) (hd : decode cc pc = .ok (.getfield idx, 3)) (hk : k < N) (hc : jv_cls k = q) (hq11 : q < 11) (hr : jv_rf k j = t) (hs : S k j = true)
    (kk : VC p l e R s m args below meth c nL D ad cI cB z0 cells slots Q S N (pc + 3) lv (.ref (ad t) :: st)) : VC p l e R s m args below meth c nL D ad cI cB z0 cells slots Q S N pc lv (.ref (ad k) :: st) :=
  fun H locs ls hz hP hS hl' => va_get (D := D) (ci := q) (C := C) (T := T) (N := F) X.1.1 X.1.2.1 X.1.2.2.2.2.1 hin X.1.2.2.2.1 X.1.2.2.2.2.2.1 hP k (by rw [wc_get hk, cce_O hc hq11]) hq j hj (X.1.2.2.2.2.1 _ hl) (fun _ h9 => h9) (by rw [cfs_at hn]) hd (by
    have e : cv ad S q k j = .ref (ad t) := by simp [cv, ht, hs, hr]
    rw [e]
    exact kk H locs ls hz hP hS hl')
end VCROWS
