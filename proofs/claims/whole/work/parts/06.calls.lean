/-! CONTRACTS. Con d y .. As w rv w': called with As in the world w, with d calls to stand open above it, y returns rv and leaves w'. -/
def bPre (dC : Nat → ClassId) (dI : Nat → Nat → Nat) (cA : ClassId) (ad adV : Nat → Nat) (sz : Nat) (w : Wd) (U : State) : Prop := U.heap.size = sz ∧ va_P (dC, dI) vwCl (wsOf cA ad w) U.heap ∧ va_K (dC, dI) vwCl [(cA, .int)] U ∧ adI ad ∧ StA ad adV (Aof ad sz) U
def bQ (dC : Nat → ClassId) (dI : Nat → Nat → Nat) (cA : ClassId) (ad : Nat → Nat) (rv : Option Value) (w' : Wd) (A : Nat → Prop) : Array Value → State → Outcome → State → Prop := fun _ st oc t => (oc = .returned (rv.map (vm ad)) ∧ va_P (dC, dI) vwCl (wsOf cA ad w') t.heap) ∧ va_F A st t
def rmD (d : Nat) : Room := { frames := d, cells := 0, slots := 0, locals := 40 * d }
def Con (d : Nat) (y : MethodName) (cc : ByteArray) (nL : Nat) (ret : Option FieldType) (As : List Value) (w : Wd) (rv : Option Value) (w' : Wd) : Prop := ∀ (l : Launch) (dC : Nat → ClassId) (dI : Nat → Nat → Nat) (cA : ClassId) (ad adV : Nat → Nat) (sz : Nat), Met l y (.code y cc nL ret :: lw_gd) (rmD d) (va_Pc (As.map (vm ad)) (bPre dC dI cA ad adV sz w)) (bQ dC dI cA ad rv w' (Aof ad sz)) 0 0 (Aof ad sz)
def bEnd (ret : Option FieldType) (rv : Option Value) (w' : Wd) (X : bX) : Prop := match X with
  | (_, _, _, _, s, _, args, below, meth, _, cells, slots, Qf, A, dC, dI, cA, ad, _) => meth.sig.returnType = ret ∧ Qf = MQ below (bQ dC dI cA ad rv w' A) args s cells slots A
/-- the locals at the entry -/
def argL (n : Nat) (As : List Value) : List (Option Value) := (List.range n).map (fun i => ((lv_args 0 As).find? (fun q => q.1 == i)).map (fun q => q.2))
theorem args_map {ad : Nat → Nat} : ∀ (As : List Value) (j i : Nat) (v : Value), (i, v) ∈ lv_args j As → (i, vm ad v) ∈ lv_args j (As.map (vm ad))
  | [], _, _, _, h => by cases h
  | a :: As, j, i, v, h => by
    simp only [lv_args, List.map_cons, vm_cat] at h ⊢
    rcases List.mem_cons.mp h with h | h
    · cases h; exact List.mem_cons_self
    · exact List.mem_cons_of_mem _ (args_map As _ i v h)
theorem argL_LH {ad : Nat → Nat} {ls : Array Slot} {n : Nat} {As : List Value} (h : lv_has ls n (lv_args 0 (As.map (vm ad)))) : LH ad ls n (argL n As) := by
  refine ⟨h.1, h.2.1, fun i v hi => ?_⟩
  unfold argL at hi
  rw [List.getElem?_map] at hi
  cases hr : (List.range n)[i]? with
  | none => rw [hr] at hi; cases hi
  | some k =>
    rw [hr] at hi
    have hk : k = i := by
      have := List.getElem?_eq_some_iff.mp hr
      obtain ⟨h1, h2⟩ := this
      simpa using h2.symm
    subst hk
    simp only [Option.map_some, Option.some.injEq] at hi
    cases hf : (lv_args 0 As).find? (fun q => q.1 == k) with
    | none => rw [hf] at hi; cases hi
    | some q =>
      rw [hf] at hi
      simp only [Option.map_some, Option.some.injEq] at hi
      have h1 := List.find?_some hf
      have h2 := List.mem_of_find?_eq_some hf
      obtain ⟨a, b⟩ := q
      simp only [beq_iff_eq] at h1
      subst h1
      subst hi
      exact h.2.2 _ (args_map As 0 _ _ h2)
theorem sl_len {ad : Nat → Nat} (As : List Value) : (lg_sl (As.map (vm ad))).length = (lg_sl As).length := by
  induction As with
  | nil => rfl
  | cons a As ih =>
    simp only [lg_sl, List.map_cons, List.flatMap_cons, List.length_append, vm_cat] at ih ⊢
    rw [ih]
    congr 1
    split <;> rfl
theorem Con_of {d : Nat} {y : MethodName} {cc : ByteArray} {nL : Nat} {ret : Option FieldType} {As : List Value} {w : Wd} {rv : Option Value} {w' : Wd} (hy : plainName y.cls = true) (hn : (lg_sl As).length ≤ nL)
    (body : ∀ X : bX, bOk cc nL y.cls d X → bEnd ret rv w' X → bV X 0 (argL nL As) [] w) : Con d y cc nL ret As w rv w' := by
  intro l dC dI cA ad adV sz
  refine Met.ofW (cc := cc) (maxL := nL) (ret := ret) hy rfl ?_
  intro p e s m args below meth c s₁ B hml hv
  obtain ⟨rfl, hsz, hP, hK, hI, hSt⟩ := hv
  subst hsz
  have hts := atoms_spec (ws := .code y cc nL ret :: lw_gd) B.pre
  have hown : s.vm.findClass y.cls = some m.cls := findClass_of_methodNamed B.named
  have b := body (p, l, e, rmD d, s, m, (As.map (vm ad)).toArray, below, meth, c, 0, 0, MQ below (bQ dC dI cA ad rv w' (Aof ad s.heap.size)) (As.map (vm ad)).toArray s 0 0 (Aof ad s.heap.size), Aof ad s.heap.size, dC, dI, cA, ad, adV)
    ⟨B.exec, B.bytes, hml, hown, fun q hq => hts q (List.mem_cons_of_mem _ hq), hK, fun q h => Or.inr h, B.notSynchronized, Nat.le_refl _, Nat.le_refl _, Nat.zero_le _, Nat.zero_le _, hSt, hI, fun k hk => Or.inl ⟨k, hk, rfl⟩⟩ ⟨B.returns, rfl⟩
  rw [lg_entry_eq]
  refine b s.heap [] _ hP va_S.rf ?_
  rw [hml]
  exact argL_LH (lv_entry (As.map (vm ad)) (by rw [sl_len]; exact hn))
section ENDS
variable {cc : ByteArray} {nL d pc : Nat} {own : String} {X : bX} {L : List (Option Value)} {S : List Value} {w w' : Wd}
theorem V_iret (hX : bOk cc nL own d X) {ty : FieldType} {x : Int32} (hE : bEnd (some ty) (some (.int x)) w X) (hn : narrow ty (.int x) = .int x) (hd : decode cc pc = .ok (.ireturn, 1)) : bV X pc L [.int x] w := by
  obtain ⟨p, l, e, R, s, m, args, below, meth, c, cells, slots, Qf, A, dC, dI, cA, ad, adV⟩ := X
  obtain ⟨hx, hb, hml, hown, hts, hK, hA, hlk, -⟩ := hX
  obtain ⟨hr, rfl⟩ := hE
  intro H locs ls hP hS hl
  exact W.zret hx hb hr hn (fun t ht hW => ⟨⟨rfl, by rw [ht]; exact hP⟩, hS.F ht⟩) hS.2.2 hd (hlocks := hlk)
theorem V_vret (hX : bOk cc nL own d X) (hE : bEnd none none w X) (hd : decode cc pc = .ok (.return_, 1)) : bV X pc L [] w := by
  obtain ⟨p, l, e, R, s, m, args, below, meth, c, cells, slots, Qf, A, dC, dI, cA, ad, adV⟩ := X
  obtain ⟨hx, hb, hml, hown, hts, hK, hA, hlk, -⟩ := hX
  obtain ⟨hr, rfl⟩ := hE
  intro H locs ls hP hS hl
  exact W.vret hx hb hr (fun t ht hW => ⟨⟨rfl, by rw [ht]; exact hP⟩, hS.F ht⟩) hS.2.2 hd (hlocks := hlk)
theorem V_aret (hX : bOk cc nL own d X) {rt : FieldType} {a : Nat} (hE : bEnd (some rt) (some (.ref a)) w X) (hrt : (∃ n, rt = .object n) ∨ ∃ t, rt = .array t) (hd : decode cc pc = .ok (.areturn, 1)) : bV X pc L [.ref a] w := by
  obtain ⟨p, l, e, R, s, m, args, below, meth, c, cells, slots, Qf, A, dC, dI, cA, ad, adV⟩ := X
  obtain ⟨hx, hb, hml, hown, hts, hK, hA, hlk, -⟩ := hX
  obtain ⟨hr, rfl⟩ := hE
  intro H locs ls hP hS hl
  exact W.aret hx hb hr hrt (Or.inr ⟨_, rfl⟩) (fun t ht hW => ⟨⟨rfl, by rw [ht]; exact hP⟩, hS.F ht⟩) hS.2.2 hd (hlocks := hlk)
end ENDS
/-- behind a call -/
theorem callG {p : Program} {l : Launch} {e : Env} {R : Room} {s : State} {m : MethodId} {args : Array Value} {below : List Frame} {meth : Method} {c : Code} {H H0 : Heap} {locs : List Loc} {cells slots pc : Nat} {Q : State → Prop} {ls : Array Slot} {st0 rest : List Value} {dC : Nat → ClassId} {dI : Nat → Nat → Nat} {cA : ClassId} {ad : Nat → Nat} {rv : Option Value} {w' : Wd} {A0 A1 : Nat → Prop} {a : Array Value}
    (hr : va_Run p l e R s m args below meth c H locs cells slots 0 0 (F0 m pc ls st0) rest (bQ dC dI cA ad rv w' A1 a) A1) (hS : va_S A0 H0 H locs) (hA : ∀ q, A1 q → A0 q)
    (kk : ∀ (H1 : Heap) (locs1 : List Loc), va_P (dC, dI) vwCl (wsOf cA ad w') H1 → va_S A0 H0 H1 locs1 → W p l e R s m args below meth c H1 locs1 cells slots Q (F0 m (pc + 3) ls ((rv.map (vm ad)).toList ++ rest))) : W p l e R s m args below meth c H locs cells slots Q (F0 m pc ls st0) := by
  intro T hT X
  obtain ⟨v, st₀, t, T', L, h0, X', hL, e1, e2, ⟨⟨hv, hP⟩, hz, hk⟩, st⟩ := hr T hT X
  cases hv
  rw [h0] at hz hk
  obtain ⟨t2, a1, b1⟩ := kk T'.heap (locs ++ L) (by rw [e1]; exact hP)
    ⟨Nat.le_trans hS.1 (by rw [e1]; exact hz), fun q h1 h2 => by rw [e1, hk q (Nat.lt_of_lt_of_le h1 hS.1) (fun z => h2 (hA q z))]; exact hS.2.1 q h1 h2, fun q hq => by
      rcases List.mem_append.mp hq with h | h
      · exact hS.2.2 q h
      · exact hA _ (hL q h)⟩ T' rfl X'
  exact ⟨t2, st t2 a1, b1⟩
/-- pool place i of class own is the method y of n parameters -/
def mdOk (y : MethodName) (n : Nat) : Bool := (decide (y.cls ≠ "java/lang/invoke/MethodHandle") && decide (y.cls ≠ "java/lang/invoke/VarHandle")) && (decide ((parseMethodDescriptor y.desc).map (fun d => d.parameters.length) = some n) && inGd (.initialized y.cls))
def lkOk (own : String) (i : Nat) (y : MethodName) : Bool := inGd (.methodLink own i y) || inNe (.methodLinkNest own i y "BentFurrows")
def ivOk (y : MethodName) : Bool := inGd (.instanceMethod y) && inGd (.selects y.cls y y)
def isOk (y : MethodName) : Bool := inGd (.static y)
theorem gd_self {y : MethodName} {cc : ByteArray} {n : Nat} {ret : Option FieldType} (h : inGd (.code y cc n ret) = true) : GoodIn lw_gd (.code y cc n ret :: lw_gd) := by
  intro w hw
  rcases List.mem_cons.mp hw with rfl | hw
  · exact ⟨inGd_mem h, gd_good (inGd_mem h)⟩
  · exact ⟨hw, gd_good hw⟩
theorem FB {av : List Value} {dC : Nat → ClassId} {dI : Nat → Nat → Nat} {cA : ClassId} {ad adV : Nat → Nat} {sz : Nat} {w : Wd} : FrameBlind (va_Pc av (bPre dC dI cA ad adV sz w)) := by
  intro a U g mk h
  obtain ⟨h0, h1, h2, h3, h4, h5⟩ := h
  exact ⟨h0, h1, h2, va_K.moved (u := U) (U := U.calling g mk a) (Vm.Alike.refl U.vm) h3, h4, h5.call g mk a⟩
theorem cat_map {ad : Nat → Nat} (S : List Value) (h : (S.map fun v => v.category).sum ≤ 8) : ((S.map (vm ad)).map fun v => v.category).sum ≤ 8 := by
  have e : (S.map (vm ad)).map (fun v => v.category) = S.map fun v => v.category := by
    rw [List.map_map]; exact List.map_congr_left (fun v _ => vm_cat ad v)
  rw [e]; exact h
theorem opt_map {ad : Nat → Nat} (rv : Option Value) (S : List Value) : (rv.map (vm ad)).toList ++ S.map (vm ad) = (rv.toList ++ S).map (vm ad) := by
  cases rv <;> rfl
section CALLS
variable {cc cy : ByteArray} {nL d pc i n ny : Nat} {own : String} {X : bX} {L : List (Option Value)} {S As : List Value} {w w' : Wd} {y : MethodName} {ry : Option FieldType} {rv : Option Value}
theorem V_callV {b ci N : Nat} {T : u_T} {fs : List Nat} (hX : bOk cc nL own (d + 1) X) (hC : Con d y cy ny ry (.ref b :: As) w rv w') (hl : lkOk own i y = true) (hm : mdOk y n = true) (hv : ivOk y = true) (hco : inGd (.code y cy ny ry) = true) (hny : ny ≤ 21)
    (hb : b < 57) (hy : lay b = .inr (ci, fs)) (hci : vwCl[ci]? = some (y.cls, T, N)) (hn : As.length = n) (hr : (S.map fun v => v.category).sum ≤ 8) (hd : decode cc pc = .ok (.invokevirtual i, 3)) (k : bV X (pc + 3) L (rv.toList ++ S) w') : bV X pc L (As.reverse ++ .ref b :: S) w := by
  obtain ⟨p, l, e, R, s, m, args, below, meth, c, cells, slots, Qf, A, dC, dI, cA, ad, adV⟩ := X
  obtain ⟨hx, hbc, hml, hown, hts, hK, hA, hlk, hfr, hlo, hce, hsl, hSt, hI, hAk⟩ := hX
  intro H locs ls hP hS hll
  simp only [mdOk, ivOk, Bool.and_eq_true, decide_eq_true_eq] at hm hv
  have hM := hC l dC dI cA ad adV H.size
  have hA1 : ∀ q, Aof ad H.size q → A q := fun q h => by
    rcases h with ⟨k, hk, rfl⟩ | h
    · exact hAk k hk
    · exact hA q (Nat.le_trans hS.1 h)
  have hpre : PreV s H y.cls (ad b) (va_Pc (Value.ref (ad b) :: As.map (vm ad)) (bPre dC dI cA ad adV H.size w)) (As.map (vm ad)) :=
    ⟨FB, va_recv hK hP (ci := ci) (q0 := b) hci ((wsOf_at (cA := cA) (ad := ad) (w := w) hb).trans (by rw [cellE_obj hy])), fun U hU hW => ⟨rfl, by rw [hU], by rw [hU]; exact hP, va_K.moved hW.alike hK, hI, hSt.warm hW (fun q h1 h2 => by rw [hU]; exact hS.2.1 q h1 h2) hA1⟩⟩
  have hst : (As.reverse ++ .ref b :: S).map (vm ad) = (As.map (vm ad)).reverse ++ .ref (ad b) :: S.map (vm ad) := by
    rw [List.map_append, List.map_reverse]; rfl
  have hrm : (rmD d).frames + 1 ≤ R.frames ∧ 8 + (ny + 11) + (rmD d).locals ≤ R.locals := ⟨hfr, by show 8 + (ny + 11) + 40 * d ≤ R.locals; omega⟩
  have hg : Cond.code y cy ny ry ∈ lw_gd := inGd_mem hco
  refine callG (pc := pc) (?_ : va_Run p l e R s m args below meth c H locs cells slots 0 0 (F0 m pc ls ((As.reverse ++ .ref b :: S).map (vm ad))) (S.map (vm ad)) (bQ dC dI cA ad rv w' (Aof ad H.size) (Value.ref (ad b) :: As.map (vm ad)).toArray) (Aof ad H.size)) hS hA1 (fun H1 locs1 hP1 hS1 => by rw [opt_map]; exact k H1 locs1 ls hP1 hS1 hll)
  simp only [lkOk, Bool.or_eq_true] at hl
  rcases hl with h | h
  · exact va_runV (C := y.cls) (n := n) (nL := nL) ⟨hx, hbc, hml, hown, hts⟩ hM ⟨callB_of n hts (gd_self hco) rfl rfl rfl (hts _ (inGd_mem hm.2.2)) (hts _ (inGd_mem h)) ⟨hm.1.1, hm.1.2, hm.2.1⟩ hrm, hts _ (inGd_mem hv.1), hts _ (inGd_mem hv.2)⟩ hpre rfl (by simpa using hn) (hll.1.trans hml) hst (lv_room (cat_map S hr)) hd ⟨hce, hsl⟩
  · exact va_runVN (C := y.cls) (host := "BentFurrows") (n := n) (nL := nL) ⟨hx, hbc, hml, hown, hts⟩ hM ⟨va_cnB n hts (gd_self hco) rfl rfl rfl (hSt.2.2.2.2.2.2.2 _ (inNe_mem h)) (hts _ (inGd_mem hm.2.2)) ⟨hm.1.1, hm.1.2, hm.2.1⟩ hrm, hts _ (inGd_mem hv.1), hts _ (inGd_mem hv.2)⟩ hpre rfl (by simpa using hn) (hll.1.trans hml) hst (lv_room (cat_map S hr)) hd ⟨hce, hsl⟩
theorem V_callS (hX : bOk cc nL own (d + 1) X) (hC : Con d y cy ny ry As w rv w') (hl : lkOk own i y = true) (hm : mdOk y n = true) (hv : isOk y = true) (hco : inGd (.code y cy ny ry) = true) (hny : ny ≤ 21)
    (hn : As.length = n) (hr : (S.map fun v => v.category).sum ≤ 8) (hd : decode cc pc = .ok (.invokestatic i, 3)) (k : bV X (pc + 3) L (rv.toList ++ S) w') : bV X pc L (As.reverse ++ S) w := by
  obtain ⟨p, l, e, R, s, m, args, below, meth, c, cells, slots, Qf, A, dC, dI, cA, ad, adV⟩ := X
  obtain ⟨hx, hbc, hml, hown, hts, hK, hA, hlk, hfr, hlo, hce, hsl, hSt, hI, hAk⟩ := hX
  intro H locs ls hP hS hll
  simp only [mdOk, isOk, Bool.and_eq_true, decide_eq_true_eq] at hm hv
  have hM := hC l dC dI cA ad adV H.size
  have hA1 : ∀ q, Aof ad H.size q → A q := fun q h => by
    rcases h with ⟨k, hk, rfl⟩ | h
    · exact hAk k hk
    · exact hA q (Nat.le_trans hS.1 h)
  have hpre : PreS s H (va_Pc (As.map (vm ad)) (bPre dC dI cA ad adV H.size w)) (As.map (vm ad)) :=
    ⟨FB, fun U hU hW => ⟨rfl, by rw [hU], by rw [hU]; exact hP, va_K.moved hW.alike hK, hI, hSt.warm hW (fun q h1 h2 => by rw [hU]; exact hS.2.1 q h1 h2) hA1⟩⟩
  have hst : (As.reverse ++ S).map (vm ad) = (As.map (vm ad)).reverse ++ S.map (vm ad) := by
    rw [List.map_append, List.map_reverse]
  have hrm : (rmD d).frames + 1 ≤ R.frames ∧ 8 + (ny + 11) + (rmD d).locals ≤ R.locals := ⟨hfr, by show 8 + (ny + 11) + 40 * d ≤ R.locals; omega⟩
  refine callG (pc := pc) (?_ : va_Run p l e R s m args below meth c H locs cells slots 0 0 (F0 m pc ls ((As.reverse ++ S).map (vm ad))) (S.map (vm ad)) (bQ dC dI cA ad rv w' (Aof ad H.size) (As.map (vm ad)).toArray) (Aof ad H.size)) hS hA1 (fun H1 locs1 hP1 hS1 => by rw [opt_map]; exact k H1 locs1 ls hP1 hS1 hll)
  simp only [lkOk, Bool.or_eq_true] at hl
  rcases hl with h | h
  · exact va_runS (n := n) (nL := nL) ⟨hx, hbc, hml, hown, hts⟩ hM ⟨callB_of n hts (gd_self hco) rfl rfl rfl (hts _ (inGd_mem hm.2.2)) (hts _ (inGd_mem h)) ⟨hm.1.1, hm.1.2, hm.2.1⟩ hrm, hts _ (inGd_mem hv)⟩ hpre rfl (by simpa using hn) (hll.1.trans hml) hst (lv_room (cat_map S hr)) hd ⟨hce, hsl⟩
  · exact va_runSN (host := "BentFurrows") (n := n) (nL := nL) ⟨hx, hbc, hml, hown, hts⟩ hM ⟨va_cnB n hts (gd_self hco) rfl rfl rfl (hSt.2.2.2.2.2.2.2 _ (inNe_mem h)) (hts _ (inGd_mem hm.2.2)) ⟨hm.1.1, hm.1.2, hm.2.1⟩ hrm, hts _ (inGd_mem hv), trivial⟩ hpre rfl (by simpa using hn) (hll.1.trans hml) hst (lv_room (cat_map S hr)) hd ⟨hce, hsl⟩
end CALLS
