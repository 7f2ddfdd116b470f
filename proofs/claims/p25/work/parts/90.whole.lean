/-! THE CLAIM OUT OF ONE WALK OF THE LAW'S BODY. Your part is whole_start (and what it stands on); all else here is the same for every law, but numbers. -/
def lw_P (b : Addr) (xs : List Int32) (args : Array Value) (s : State) : Prop := args = #[.ref b] ∧ s.IntsAt b xs ∧ xs.length ≤ 260 ∧ (Jvm.Cond.and given_1 narrow_1).before args s = true
def lw_Q (_ : Array Value) (s : State) (o : Outcome) (t : State) : Prop := o = .returned (some (.int 1)) ∧ Framed s o t [] 653107 7142928
def lw_Z (below : List Frame) (a : Array Value) (s : State) : State → Prop := fun t => ∃ o, t.status = .running ∧ Ended t below o ∧ lw_Q a s o t
/-- the law's own end, with 1 on the stack, nothing written that was there before, its room as the claim has it -/
theorem lw_ret {p : Program} {l : Launch} {e : Env} {s : State} {m : MethodId} {below : List Frame} {meth : Method} {c : Code} {b : Nat} (hx : p.tables.exec = Jvm.exec) (hb : c.code = code) (hr : meth.sig.returnType = ret) (hlocks : meth.locks = false) {pc : Nat} {H : Heap} {ls : Array Slot} (hdg : decode code pc = .ok (.ireturn, 1)) : W p l e room_1 s m #[Value.ref b] below meth c H [] 653107 7142928 (lw_Z below #[Value.ref b] s) (F0 m pc ls [.int 1]) := by
  intro T hT X
  obtain ⟨fs, hret, hrun, hended, hW, hframe⟩ := X.leave (v := some (.int 1)) (hlocks := hlocks) (fun h => by rw [hr] at h; cases h)
  have hmeth' : T.vm.method? m = some meth := X.method'
  refine ⟨T.setFrames fs, ?_, .returned (some (.int 1)), hrun, hended, rfl, ⟨_, rfl⟩, hW, hframe⟩
  jvm_step X.here [X.here.top, hx, hb, hdg, hmeth', hr, ret, narrow_b1]
  (try refine ⟨rfl, ?_⟩); (try refine ⟨rfl, ?_⟩)
  first | (intro acts; rw [hret _ acts rfl rfl rfl]) | rw [hret _ _ rfl rfl rfl]
  exact Steps.refl _
/-- what holds at the law's entry: the machine, the code, the tables' words (any of lw_tbl by 'hts w (by decide +kernel)'), the script of L ints xs at the cell b, what the Statement gives of the start (any of its parts by flat_of_before) -/
def lw_At (p : Program) (s : State) (m : MethodId) (meth : Method) (c : Code) (b L : Nat) (xs : Nat → Int32) : Prop :=
  p.tables.exec = Jvm.exec ∧ c.code = code ∧ meth.sig.returnType = ret ∧ c.maxLocals = 16 ∧ s.vm.findClass R_law = some m.cls ∧ (∀ w ∈ lw_tbl, w.before #[Value.ref b] s = true) ∧ va_X b L xs s s.heap ∧ b < s.heap.size ∧ meth.locks = false ∧ (Jvm.Cond.and given_1 narrow_1).before #[Value.ref b] s = true
theorem VC_istore {p : Program} {l : Launch} {e : Env} {R : Room} {s : State} {m : MethodId} {args : Array Value} {below : List Frame} {meth : Method} {c : Code} {own : String} {cc : ByteArray} {nL d : Nat} {D : va_G} {ad : Nat → Nat} {cI cB : ClassId} {z0 mc ms cells slots : Nat} {Q : State → Prop} {S : Nat → Nat → Bool} {N : Nat} {pc : Nat} {lv : List (Nat × Value)} {st : List Value} (X : CC p R s m args meth c own cc nL d D ad cI cB z0 mc ms) {i : Nat} {x : Int32} (lv' : List (Nat × Value)) (hd : decode cc pc = .ok (.istore i, 2)) (hn : i < nL) (hl' : (i, Value.int x) :: lv.filter (fun q => !(q.1 == i) && !(q.1 + 1 == i && q.2.category == 2)) = lv') (k : VC p l e R s m args below meth c nL D ad cI cB z0 cells slots Q S N (pc + 2) lv' st) : VC p l e R s m args below meth c nL D ad cI cB z0 cells slots Q S N pc lv (.int x :: st) :=
  fun H locs ls hz hP hS hl => lv_istore X.1.1 X.1.2.1 hd hl hn hl' (fun ls hl => k H locs ls hz hP hS hl)
def sg0 : Sg := ((fun _ _ => 0), (fun _ _ => 0), (fun _ _ => 0))
theorem cl_La_9 : Cond.classLink R_law 9 jR0 ∈ gtbl := gt_of 26 (by decide +kernel) rfl
theorem ml_La_77 : Cond.methodLink R_law 77 y_Co_init ∈ gtbl := gt_of 28 (by decide +kernel) rfl
theorem wc_wl {ad : Nat → Nat} {cI cB : ClassId} : wc ad cI cB S_Co_init_0 93 = wl ad cI cB sg0 := by
  have hs : ∀ k, k < 93 → ∀ j, j < 14 → jv_ty (jv_cls k) j = 1 → S_Co_init_0 k j = true ∨ jv_nf (jv_cls k) ≤ j := by decide +kernel
  have hn : ∀ k, k < 93 → jv_nf (jv_cls k) ≤ 14 := by decide +kernel
  refine List.map_congr_left (fun k hk => ?_)
  have hk : k < 93 := List.mem_range.mp hk
  have e : cfs ad S_Co_init_0 (jv_cls k) k = jv_fs ad sg0 (jv_cls k) k := by
    refine List.map_congr_left (fun j hj => ?_)
    have hj : j < jv_nf (jv_cls k) := List.mem_range.mp hj
    have h14 : j < 14 := Nat.lt_of_lt_of_le hj (hn k hk)
    rw [cv, jv_fv]
    by_cases h0 : jv_ty (jv_cls k) j = 0
    · rw [if_pos h0, if_pos h0]; rfl
    · rw [if_neg h0, if_neg h0]
      by_cases h1 : jv_ty (jv_cls k) j = 1
      · rcases hs k hk j h14 h1 with h2 | h2
        · rw [if_pos h1, if_pos h1, if_pos h2]
        · omega
      · rw [if_neg h1, if_neg h1]; rfl
  rw [cce, jv_ce, e]
  rfl
theorem ra_name {s : State} {ty : FieldType} (h : ∀ C, ty ≠ .object C) {q : ClassId} (hr : va_RA s q ty) : s.vm.findClass ("[" ++ ty.toString) = some q := by
  cases ty <;> first | exact hr | exact absurd rfl (h _)
theorem arr_known {args : Array Value} {s : State} {ty : FieldType} (hty : ∀ C, ty ≠ .object C) (h : (Cond.arrayClass ty).before args s = true) : ∃ cA : ClassId, ArrOfT s cA ty ∧ va_RA s cA ty := by
  obtain ⟨cA, k, comp, h1, h2, h3⟩ := Cond.arrayClass_spec (show (Cond.arrayClass ty).holds args s none s [] = true from h)
  refine ⟨cA, fun n z => ⟨fun k h => (by cases h), k, h2, comp, h3⟩, ?_⟩
  cases ty <;> first | exact h1 | exact absurd rfl (hty _)

/-- THE LAW, from its entry -/
theorem whole_start {p : Program} {e : Env} {s : State} {m : MethodId} {below : List Frame} {meth : Method} {c : Code} (l : Launch) (hflags : l.flags = flags0) {b L : Nat} {xs : Nat → Int32} (hL : L ≤ 260) (C0 : lw_At p s m meth c b L xs) : W p l e room_1 s m #[Value.ref b] below meth c s.heap [] 0 0 (lw_Z below #[Value.ref b] s) (entryFrame m ([Value.ref b] : List Value).toArray 16) := by
  obtain ⟨hx, hb, hr, hml, hown, hts, hX, hbl, hlocks, hgv⟩ := C0
  have hs := flat_of_before _ hgv
  have hbA : ¬ (fun q : Nat => s.heap.size ≤ q) b := Nat.not_le.mpr hbl
  have hgt : ∀ w ∈ gtbl, w.before #[Value.ref b] s = true := fun w hw => hts w (List.mem_filter.mp hw).1
  have hAo : ∀ a : Nat, a < s.heap.size → ¬ (fun q : Nat => s.heap.size ≤ q) a := fun a ha => Nat.not_le.mpr ha
  obtain ⟨c0, iS0, hKn0⟩ := u_known (C := jR0) (T := jT0) (N := 11) (n := 11) hgt ji0 (hgt _ in_0)
  obtain ⟨c1, iS1, hKn1⟩ := u_known (C := jR1) (T := jT1) (N := 2) (n := 2) hgt ji1 (hgt _ in_1)
  obtain ⟨c2, iS2, hKn2⟩ := u_known (C := jR2) (T := jT2) (N := 4) (n := 4) hgt ji2 (hgt _ in_2)
  obtain ⟨c3, iS3, hKn3⟩ := u_known (C := jR3) (T := jT3) (N := 14) (n := 14) hgt ji3 (hgt _ in_3)
  obtain ⟨c4, iS4, hKn4⟩ := u_known (C := jR4) (T := jT4) (N := 4) (n := 4) hgt ji4 (hgt _ in_4)
  obtain ⟨c5, iS5, hKn5⟩ := u_known (C := jR5) (T := jT5) (N := 1) (n := 1) hgt ji5 (hgt _ in_5)
  obtain ⟨c6, iS6, hKn6⟩ := u_known (C := jR6) (T := jT6) (N := 6) (n := 6) hgt ji6 (hgt _ in_6)
  obtain ⟨c7, iS7, hKn7⟩ := u_known (C := jR7) (T := jT7) (N := 5) (n := 5) hgt ji7 (hgt _ in_7)
  obtain ⟨c8, iS8, hKn8⟩ := u_known (C := jR8) (T := jT8) (N := 3) (n := 3) hgt ji8 (hgt _ in_8)
  obtain ⟨c9, iS9, hKn9⟩ := u_known (C := jR9) (T := jT9) (N := 1) (n := 1) hgt ji9 (hgt _ in_9)
  obtain ⟨dC, dI, hKc⟩ : ∃ (dC : Nat → ClassId) (dI : Nat → Nat → Nat), ∀ (k : Nat) (q : vw_C), classes[k]? = some q → u_Kn s q.1 q.2.1 q.2.2 (dC k) (dI k) := by
    refine ⟨fun k => ([c0, c1, c2, c3, c4, c5, c6, c7, c8, c9] : List ClassId).getD k 0, fun k => ([iS0, iS1, iS2, iS3, iS4, iS5, iS6, iS7, iS8, iS9] : List (Nat → Nat)).getD k (fun _ => 0), ?_⟩
    intro k q hq
    match k, hq with
    | 0, hq => cases hq; exact hKn0
    | 1, hq => cases hq; exact hKn1
    | 2, hq => cases hq; exact hKn2
    | 3, hq => cases hq; exact hKn3
    | 4, hq => cases hq; exact hKn4
    | 5, hq => cases hq; exact hKn5
    | 6, hq => cases hq; exact hKn6
    | 7, hq => cases hq; exact hKn7
    | 8, hq => cases hq; exact hKn8
    | 9, hq => cases hq; exact hKn9
    | k + 10, hq => simp [classes] at hq
  obtain ⟨cI, hcI⟩ := arr_known (ty := .int) (fun C h => by cases h) (hgt _ (gt_of 50 (by decide +kernel) rfl))
  obtain ⟨cB, hcB⟩ := arr_known (ty := .byte) (fun C h => by cases h) (hgt _ (gt_of 685 (by decide +kernel) rfl))
  have hK : va_K (dC, dI) classes [(cI, .int), (cB, .byte)] s := ⟨hKc, fun k q h => by
    match k, h with
    | 0, h => cases h; exact hcI
    | 1, h => cases h; exact hcB
    | k + 2, h => simp at h⟩
  obtain ⟨adK, adV, hE, hEv⟩ := vk_Sof (args := #[Value.ref b]) (s := s) (N := 1) (tm := fun _ => Term.string "MistletoeCourt$Reader" 54) (len := [5]) (byt := [[99, 109, 117, 111, 97]]) (A := fun q : Nat => s.heap.size ≤ q)
    (fun i hi => by have : i = 0 := by omega
                    subst this; decide)
    (fun i hi => hs _ (by decide +kernel)) (fun i hi => hs _ (by decide +kernel)) (fun i hi => hs _ (by decide +kernel))
    (fun i hi => by have : i = 0 := by omega
                    subst this; exact hs _ (by decide +kernel))
    (fun i hi j hj => by
      have : i = 0 := by omega
      subst this
      have hj : j < 5 := hj
      match j, hj with
      | 0, _ => exact hs _ (by decide +kernel)
      | 1, _ => exact hs _ (by decide +kernel)
      | 2, _ => exact hs _ (by decide +kernel)
      | 3, _ => exact hs _ (by decide +kernel)
      | 4, _ => exact hs _ (by decide +kernel))
    (fun i j hi hj h => absurd (by omega) h) hAo
  obtain ⟨ad, had, hadK, hadV⟩ : ∃ ad : Nat → Nat, (∀ k, k < 93 → ad k = s.heap.size + k) ∧ ad 1000 = adK 0 ∧ ad 1001 = adV 0 :=
    ⟨fun k => if k < 93 then s.heap.size + k else if k = 1000 then adK 0 else adV 0, fun k hk => by simp [hk], by simp, by simp⟩
  have hSx : Sx ad (fun q : Nat => s.heap.size ≤ q) s := by
    refine ⟨fun a i x h hm => va_Nw.of rfl (hts _ hm), ⟨fun i hi => ?_, fun i j hi hj _ => by omega⟩, ?_, ?_⟩
    · have h0 : i = 0 := by omega
      subst h0
      have h1 := hE.1 0 (by decide)
      rw [← hadK, ← hadV] at h1
      exact h1
    · have h1 := hEv 0 (by decide)
      rw [← hadK] at h1
      exact vk_R.of (hts _ (List.mem_of_getElem? (i := 560) (by decide +kernel))) h1
    · exact va_Zof (hts _ (List.mem_of_getElem? (i := 574) (by decide +kernel))) (hts _ (List.mem_of_getElem? (i := 19) (by decide +kernel))) (va_eqt (hs _ (by decide +kernel))) hAo
  have X : CC p room_1 s m #[Value.ref b] meth c R_law code 16 13 (dC, dI) ad cI cB s.heap.size 93 629 :=
    ⟨⟨hx, hb, hml, hown, hgt, hK, fun q h => h, hSx, ⟨Nat.le_of_ble_eq_true rfl, Nat.le_of_ble_eq_true rfl, Nat.le_of_ble_eq_true rfl, Nat.le_of_ble_eq_true rfl⟩, hlocks⟩, had, Nat.le_refl _⟩
  have hl := lv_entry ([.ref b]) (n := 16) (Nat.le_of_ble_eq_true rfl)
  rw [lg_entry_eq]
  generalize (lg_sl ([.ref b]) ++ List.replicate (16 - (lg_sl ([.ref b])).length) Slot.unset).toArray = ls at hl ⊢
  have hl : lv_has ls 16 [(0, .ref b)] := hl
  have k0 : VC p l e room_1 s m #[Value.ref b] below meth c 16 (dC, dI) ad cI cB s.heap.size 0 0 (lw_Z below #[Value.ref b] s) (fun _ _ => false) 0 0 [(0, Value.ref b)] [] := by
    have hf0 : fresh (fun _ _ => false) 0 := fun _ _ _ => rfl
    refine VC_new X 0 rfl ji0 jk0 rfl df_0 cl_La_9 in_0 iz_0 d_La_law_0 (by decide) rfl (by decide) hf0 (by decide) (by decide) ?_
    refine VC_dup X d_La_law_3 rfl ?_
    refine VC_call X (VC_run X [] mt_Co_init ms_Co_init ml_La_77 k_Co_init_0 rfl rfl rfl (by decide) (by decide) (by decide) (Nat.le_of_ble_eq_true rfl) d_La_law_4) ?_
    refine VC_astore_n X [(1, Value.ref (ad 0)), (0, Value.ref b)] d_La_law_7 (by decide) rfl ?_
    refine VC_bipush (v := 45) X d_La_law_8 (by decide) ?_
    refine VC_newa X (t0 := 0) (cA := cI) (ty := .int) (n' := 45) ac_i rfl rfl (fun q h => h) rfl (by decide) (by decide) (by decide) d_La_law_10 (by decide) (fun S => rfl) (by decide) (by decide) ?_
    refine VC_astore_n X [(2, Value.ref (ad 91)), (1, Value.ref (ad 0)), (0, Value.ref b)] d_La_law_12 (by decide) rfl ?_
    refine VC_bipush (v := 45) X d_La_law_13 (by decide) ?_
    refine VC_newa X (t0 := 0) (cA := cI) (ty := .int) (n' := 45) ac_i rfl rfl (fun q h => h) rfl (by decide) (by decide) (by decide) d_La_law_15 (by decide) (fun S => rfl) (by decide) (by decide) ?_
    refine VC_astore_n X [(3, Value.ref (ad 92)), (2, Value.ref (ad 91)), (1, Value.ref (ad 0)), (0, Value.ref b)] d_La_law_17 (by decide) rfl ?_
    refine VC_iconst (v := 0) X d_La_law_18 (by decide) ?_
    refine VC_istore X [(4, Value.int 0), (3, Value.ref (ad 92)), (2, Value.ref (ad 91)), (1, Value.ref (ad 0)), (0, Value.ref b)] d_La_law_19 (by decide) rfl ?_
    refine VC_sub (lv' := [(0, Value.ref b), (1, Value.ref (ad 0)), (2, Value.ref (ad 91)), (3, Value.ref (ad 92)), (4, Value.int 0)]) [4, 3, 2, 1, 0] rfl ?_
    intro H locs ls hz hP hS hl
    have hD := wc_D (cI := cI) (cB := cB) (S := S_Co_init_0) had (Nat.le_refl 93)
    rw [wc_wl] at hP hD
    obtain ⟨σ', hlaw⟩ := law_true xs L hL
    refine La_law_ok (K := fun q => q.1 = 1) X.1 ⟨hX, hbl, hbA⟩ law_fu sg0 ?_ ⟨_, hlaw, rfl⟩ H locs ls hP hD hS hl
    intro r σ hr1 _ pc lv hd H locs ls hP hD hS hl
    have hr1 : r = 1 := hr1
    subst hr1
    refine va_forget (fun q hq => hS.2.2 q hq) ?_
    refine W.widen (k := 653107) (n := 7142928) (Nat.le_of_ble_eq_true rfl) (Nat.le_of_ble_eq_true rfl) ?_
    exact lw_ret hx hb hr hlocks hd
  exact k0 s.heap [] ls rfl (fun k q h => by simp [wc] at h) va_S.rf hl
-- ===== YOUR PART ENDS =====
set_option maxHeartbeats 4000000 in
theorem lw_walk (l : Launch) (hflags : l.flags = flags0) (b : Addr) (xs : List Int32) : MetFree l x (headSpec (Jvm.Cond.code x code maxLocals ret :: tables_1) room_1) (lw_P b xs) (fun _ _ _ _ _ => True) lw_Q := by
  refine MetFree.of_bodyS (code := code) (maxLocals := maxLocals) (ret := ret) (by decide) ?_ ?_
  · intro args s m h hn
    obtain ⟨meth, c, h1, h2, h3, h4, h5, h6, -, -⟩ := Cond.code_spec hn (atoms_spec (ws := Jvm.Cond.code x code maxLocals ret :: tables_1) h _ List.mem_cons_self)
    exact ⟨meth, c, h1, h2, h3, h4, h5, h6⟩
  · intro p e s m args below meth c s₁ B hml0 hP _
    obtain ⟨rfl, hx, hbd, hgv⟩ := hP
    obtain ⟨scr, harrAt, hlist, hof, hsmall⟩ := hx
    obtain ⟨hcb, hkn, -, -⟩ := State.arrayAt?_spec harrAt
    have hown : s.vm.findClass R_law = some m.cls := findClass_of_methodNamed B.named
    have hts0 : ∀ c ∈ (Jvm.Cond.code x code maxLocals ret :: tables_1), c.before #[Value.ref b] s = true := atoms_spec (ws := Jvm.Cond.code x code maxLocals ret :: tables_1) B.pre
    have hts : ∀ w ∈ lw_tbl, w.before #[Value.ref b] s = true := k2_hts_sels lw_privs (fun w hw => hts0 w (List.mem_cons_of_mem _ hw)) lw_privs_ok
    have hml : c.maxLocals = 16 := B.maxLocals_eq (hts0 _ List.mem_cons_self)
    have X₀ : Stand p l e room_1 s m #[Value.ref b] below meth c s₁ [] 0 0 := Stand.of_body B
    have hh0 : s₁.heap = s.heap := by rw [B.state]; rfl
    have hsz : scr.slots.size = xs.length := by rw [← Array.length_toList, hlist, List.length_map]
    have hval : ∀ j : Nat, j < xs.length → scr.slots[j]? = some (.int (xs.getD j 0)) := fun j hj => by
      rw [← Array.getElem?_toList, hlist]
      simp [hj]
    have hbl : b < s.heap.size := (Array.getElem?_eq_some_iff.mp hcb).1
    have hX : va_X b xs.length (fun j => xs.getD j 0) s s.heap := ⟨scr, hcb, hof, hkn, hsz, hval⟩
    have K : W p l e room_1 s m #[Value.ref b] below meth c s₁.heap [] 0 0 (lw_Z below #[Value.ref b] s) (entryFrame m ([Value.ref b] : List Value).toArray 16) := by
      rw [hh0]
      exact whole_start l hflags hbd ⟨B.exec, B.bytes, B.returns, hml, hown, hts, hX, hbl, B.notSynchronized, hgv⟩
    obtain ⟨t, a1, o, b1, b2, b3⟩ := K s₁ rfl X₀
    exact ⟨t, o, a1, b1, b2, b3⟩
theorem lw_pre_spec {args : Array Value} {s : State} (h : (Jvm.Cond.and given_1 narrow_1).before args s = true) (hr : rest_1_c.before args s = true) : ∃ (b : Addr) (xs : List Int32), lw_P b xs args s := by
  have hs := flat_of_before _ h
  have hq := flat_of_before _ hr
  have hc : (Cond.count 1).before args s = true := hs _ (by decide +kernel)
  have harr : (Cond.arrayOf (.arg 0) .int).before args s = true := hs _ (by decide +kernel)
  have hle : (Cond.le (.length (.arg 0)) (.int 260)).before args s = true := hs _ (by decide +kernel)
  have hlen : (Cond.isInt (.length (.arg 0))).before args s = true := hq _ (by decide +kernel)
  have hall : (Cond.all (.arg 0) (.isInt (.elem (.arg 0) (.index 0)))).before args s = true := hq _ (by decide +kernel)
  obtain ⟨b, xs, hb, hx⟩ := State.ints_of_pre rfl harr hlen hall
  have hsm : xs.length < 2 ^ 31 := hx.choose_spec.2.2.2
  have hev : (Term.length (.arg 0)).eval args s none [] s = some (.int xs.length.toInt32) := hx.length_eval hb
  have hv := Cond.le_ints hev (show (Term.int 260).eval args s none [] s = some (.int 260) from rfl)
  have hd : xs.length.toInt32 ≤ 260 := by
    simpa [Cond.before, Cond.holds, hv] using hle
  have hN : xs.length ≤ 260 := (Int32.ofNat_le_ofNat hsm (by decide)).mp (show Int32.ofNat xs.length ≤ Int32.ofNat 260 from hd)
  exact ⟨b, xs, Cond.one_arg hc (show args[0]? = some (.ref b) from hb), hx, hN, h⟩
theorem lw_comes (l : Launch) (hflags : l.flags = flags0) : Comes l x (Jvm.Cond.code x code maxLocals ret :: tables_1) room_1 (fun tb e args s => Calls_1 tb e args s ∧ rest_1 tb e args s ∧ Pre_1 tb e args s)
    (fun _ _ args s o t => lw_Q args s o t) := by
  intro p e ha hc hk s m args below hf hfit hheap happ hpre
  obtain ⟨b, xs, hP⟩ := lw_pre_spec hpre.2.2 hpre.2.1
  obtain ⟨k, o, h1, h2, h3, hQ⟩ := lw_walk l hflags b xs p e ha hc hk s m args below hf ((Spec.applies_iff_loose hf).mp happ).1 hP trivial
  exact ⟨k, o, h1, h2, h3, hQ⟩
theorem lw_frame {s t : State} {o : Outcome} {args : Array Value} (h : Framed s o t [] 653107 7142928) :
    Framed s o t (fieldLocs frame_1_writes args s ++ arrayLocs frame_1_arrays args s ++ staticLocs frame_1_statics s) 653107 7142928 := h
theorem lw_limb (L : Cond) (hL : ∀ (args : Array Value) (s t : State), L.after args s (.returned (some (.int 1))) t = true) :
    ArmFor flags0 classFile x code maxLocals ret World_1 tables_1 room_1 Calls_1 rest_1 Pre_1
      (fun tb e a s o t => postC L tb e a s o t ∧ Framed s o t (fieldLocs frame_1_writes a s ++ arrayLocs frame_1_arrays a s ++ staticLocs frame_1_statics s) 653107 7142928) := by
  intro l hflags _ _ p e ha hc hk s m args below hf hfit hheap happ hpre
  obtain ⟨k, o, h1, h2, h3, rfl, hF⟩ := lw_comes l hflags p e ha hc hk s m args below hf hfit hheap happ hpre
  exact ⟨k, _, h1, h2, h3, hL args s _, lw_frame hF⟩
theorem i_vc : Claimed_1_1 ∧ Claimed_1_2 := ⟨lw_limb limb_1_1 (fun args s t => by simp [limb_1_1, Cond.after, Cond.holds, Cond.value]), lw_limb limb_1_2 (fun args s t => Cond.after_iff.mpr (by
  first | (rw [show limb_1_2 = Cond.eq .result (.int 1) from rfl, Cond.eq_ints (x := 1) (y := 1) rfl rfl]; simp; done) | (simp [limb_1_2, Cond.value, Term.eval]; done)))⟩
