/-! MAKING: the constructors. kV: as bV, but over cells as they stand (addresses, not numbers), which grow. -/
theorem cA_of {args : Array Value} {s : State} (h : (Cond.arrayClass .int).before args s = true) : ∃ cA : ClassId, ArrOfT s cA .int ∧ va_RA s cA .int := by
  obtain ⟨cA, kA, comp, h1, h2, h3⟩ := Cond.arrayClass_spec (show (Cond.arrayClass .int).holds args s .none s [] = true from h)
  exact ⟨cA, fun n z => ⟨fun k h => (by cases h), kA, h2, comp, h3⟩, h1⟩
theorem cA_eq {D : va_G} {cl : List vw_C} {cA cB : ClassId} {s : State} (h : va_K D cl ([(cA, .int)] ++ [(cB, .int)]) s) : cB = cA := by
  have h0 := (h.2 0 (cA, .int) rfl).2
  have h1 := (h.2 1 (cB, .int) rfl).2
  exact Option.some.inj (h1.symm.trans h0)
def kV (X : bX) (kc ks pc : Nat) (L : List (Option Value)) (S : List Value) (ws : va_W) : Prop := match X with
  | (p, l, e, R, s, m, args, below, meth, c, _, _, Qf, A, dC, dI, _, _, _) => ∀ (H : Heap) (locs : List Loc) (ls : Array Slot), va_P (dC, dI) vwCl ws H → va_D A ws → va_S A s.heap H locs → LH id ls c.maxLocals L → W p l e R s m args below meth c H locs kc ks Qf (F0 m pc ls S)
def kOk (cc : ByteArray) (nL : Nat) (own : String) (d mc ms : Nat) (X : bX) : Prop := match X with
  | (p, _, _, R, s, m, args, _, meth, c, _, _, _, A, dC, dI, cA, _, _) => p.tables.exec = Jvm.exec ∧ c.code = cc ∧ c.maxLocals = nL ∧ s.vm.findClass own = some m.cls ∧ (∀ w ∈ lw_gd, w.before args s = true) ∧ va_K (dC, dI) vwCl [(cA, .int)] s ∧ (∀ q, s.heap.size ≤ q → A q) ∧ meth.locks = false ∧ d ≤ R.frames ∧ 40 * d ≤ R.locals ∧ mc ≤ R.cells ∧ ms ≤ R.slots ∧ ∀ w ∈ lw_nest, va_Nw w s
def kIni (X : bX) : Prop := match X with
  | (_, _, _, _, _, _, _, _, meth, _, _, _, _, _, _, _, _, _, _) => meth.name = "<init>"
/-- the class of int arrays -/
def kA (X : bX) : ClassId := match X with
  | (_, _, _, _, _, _, _, _, _, _, _, _, _, _, _, _, cA, _, _) => cA
/-- pool place i of class own is its own field j -/
def flS (own : String) (i ci j : Nat) : Bool := match vwCl[ci]? with
  | some (_, T, N) => decide (j < N) && inGd (.fieldLink own i (T j).1 (T j).2.1 (T j).2.2.1)
  | none => false
section KR
variable {cc : ByteArray} {nL d mc ms pc kc ks : Nat} {own : String} {X : bX} {L : List (Option Value)} {S : List Value} {ws : va_W}
theorem K_aload_n (hX : kOk cc nL own d mc ms X) {j : Fin 4} {i x : Nat} (hd : decode cc pc = .ok (.aload_n j, 1)) (hi : (j : Nat) = i) (hL : L[i]? = some (some (.ref x))) (k : kV X kc ks (pc + 1) L (.ref x :: S) ws) : kV X kc ks pc L S ws := by
  obtain ⟨p, l, e, R, s, m, args, below, meth, c, cells, slots, Qf, A, dC, dI, cA, ad, adV⟩ := X
  obtain ⟨hx, hb, hml, hown, hts, hK, hA, hlk, hfr, hlo, hce, hsl, hN⟩ := hX
  intro H locs ls hP hD hS hl
  exact lv_aload_n hx hb hd hi (hl.2.2 i _ hL) (k H locs ls hP hD hS hl)
theorem K_iload_n (hX : kOk cc nL own d mc ms X) {j : Fin 4} {i : Nat} {x : Int32} (hd : decode cc pc = .ok (.iload_n j, 1)) (hi : (j : Nat) = i) (hL : L[i]? = some (some (.int x))) (k : kV X kc ks (pc + 1) L (.int x :: S) ws) : kV X kc ks pc L S ws := by
  obtain ⟨p, l, e, R, s, m, args, below, meth, c, cells, slots, Qf, A, dC, dI, cA, ad, adV⟩ := X
  obtain ⟨hx, hb, hml, hown, hts, hK, hA, hlk, hfr, hlo, hce, hsl, hN⟩ := hX
  intro H locs ls hP hD hS hl
  exact lv_iload_n hx hb hd hi (hl.2.2 i _ hL) (k H locs ls hP hD hS hl)
theorem K_istore_n (hX : kOk cc nL own d mc ms X) {j : Fin 4} {i : Nat} {x : Int32} (hd : decode cc pc = .ok (.istore_n j, 1)) (hi : (j : Nat) = i) (hn : i < nL) (ho : noL L i = true) (k : kV X kc ks (pc + 1) (L.set i (some (.int x))) S ws) : kV X kc ks pc L (.int x :: S) ws := by
  obtain ⟨p, l, e, R, s, m, args, below, meth, c, cells, slots, Qf, A, dC, dI, cA, ad, adV⟩ := X
  obtain ⟨hx, hb, hml, hown, hts, hK, hA, hlk, hfr, hlo, hce, hsl, hN⟩ := hX
  intro H locs ls hP hD hS hl
  exact lv_istore_n hx hb hd hi hl.kit (by rw [hml]; exact hn) rfl (fun ls2 hl2 => k H locs ls2 hP hD hS (LH.set (v := .int x) ho hl2))
theorem K_iinc (hX : kOk cc nL own d mc ms X) {i : Nat} {n : Int} {x v : Int32} (hd : decode cc pc = .ok (.iinc i n, 3)) (hL : L[i]? = some (some (.int x))) (hv : x + Int32.ofInt n = v) (hn : i < nL) (ho : noL L i = true) (k : kV X kc ks (pc + 3) (L.set i (some (.int v))) S ws) : kV X kc ks pc L S ws := by
  obtain ⟨p, l, e, R, s, m, args, below, meth, c, cells, slots, Qf, A, dC, dI, cA, ad, adV⟩ := X
  obtain ⟨hx, hb, hml, hown, hts, hK, hA, hlk, hfr, hlo, hce, hsl, hN⟩ := hX
  intro H locs ls hP hD hS hl
  obtain ⟨q, hq⟩ := List.mem_iff_getElem?.mp (lsL_mem.mpr ⟨.int x, hL, rfl⟩ : (i, vm id (.int x)) ∈ lsL id L)
  exact lv_iinc hx hb hd hl.kit hq hv (by rw [hml]; exact hn) rfl (fun ls2 hl2 => k H locs ls2 hP hD hS (LH.set (v := .int v) ho hl2))
theorem K_iconst (hX : kOk cc nL own d mc ms X) {n : Int} {v : Int32} (hd : decode cc pc = .ok (.iconst n, 1)) (hv : Int32.ofInt n = v) (k : kV X kc ks (pc + 1) L (.int v :: S) ws) : kV X kc ks pc L S ws := by
  obtain ⟨p, l, e, R, s, m, args, below, meth, c, cells, slots, Qf, A, dC, dI, cA, ad, adV⟩ := X
  obtain ⟨hx, hb, hml, hown, hts, hK, hA, hlk, hfr, hlo, hce, hsl, hN⟩ := hX
  intro H locs ls hP hD hS hl
  exact lv_iconst hx hb hd hv (k H locs ls hP hD hS hl)
theorem K_bipush (hX : kOk cc nL own d mc ms X) {n : Int} {v : Int32} (hd : decode cc pc = .ok (.bipush n, 2)) (hv : (Int8.ofInt n).toInt32 = v) (k : kV X kc ks (pc + 2) L (.int v :: S) ws) : kV X kc ks pc L S ws := by
  obtain ⟨p, l, e, R, s, m, args, below, meth, c, cells, slots, Qf, A, dC, dI, cA, ad, adV⟩ := X
  obtain ⟨hx, hb, hml, hown, hts, hK, hA, hlk, hfr, hlo, hce, hsl, hN⟩ := hX
  intro H locs ls hP hD hS hl
  exact lv_bipush hx hb hd hv (k H locs ls hP hD hS hl)
theorem K_sipush (hX : kOk cc nL own d mc ms X) {n : Int} {v : Int32} (hd : decode cc pc = .ok (.sipush n, 3)) (hv : (Int16.ofInt n).toInt32 = v) (k : kV X kc ks (pc + 3) L (.int v :: S) ws) : kV X kc ks pc L S ws := by
  obtain ⟨p, l, e, R, s, m, args, below, meth, c, cells, slots, Qf, A, dC, dI, cA, ad, adV⟩ := X
  obtain ⟨hx, hb, hml, hown, hts, hK, hA, hlk, hfr, hlo, hce, hsl, hN⟩ := hX
  intro H locs ls hP hD hS hl
  exact lv_sipush hx hb hd hv (k H locs ls hP hD hS hl)
theorem K_dup (hX : kOk cc nL own d mc ms X) {v : Value} (hd : decode cc pc = .ok (.dup, 1)) (hc : v.category = 1) (k : kV X kc ks (pc + 1) L (v :: v :: S) ws) : kV X kc ks pc L (v :: S) ws := by
  obtain ⟨p, l, e, R, s, m, args, below, meth, c, cells, slots, Qf, A, dC, dI, cA, ad, adV⟩ := X
  obtain ⟨hx, hb, hml, hown, hts, hK, hA, hlk, hfr, hlo, hce, hsl, hN⟩ := hX
  intro H locs ls hP hD hS hl
  exact lv_dup hx hb hd hc (k H locs ls hP hD hS hl)
theorem K_goto (hX : kOk cc nL own d mc ms X) {off : Int} {tgt : Nat} (hd : decode cc pc = .ok (.goto off, 3)) (ht : (pc : Int) + off = (tgt : Int)) (k : kV X kc ks tgt L S ws) : kV X kc ks pc L S ws := by
  obtain ⟨p, l, e, R, s, m, args, below, meth, c, cells, slots, Qf, A, dC, dI, cA, ad, adV⟩ := X
  obtain ⟨hx, hb, hml, hown, hts, hK, hA, hlk, hfr, hlo, hce, hsl, hN⟩ := hX
  intro H locs ls hP hD hS hl
  exact lv_goto hx hb hd ht (k H locs ls hP hD hS hl)
theorem K_icmp_ge (hX : kOk cc nL own d mc ms X) {x y : Int32} {off : Int} {tgt : Nat} (hd : decode cc pc = .ok (.if_icmp .ge off, 3)) (ht : (pc : Int) + off = (tgt : Int)) (kt : y ≤ x → kV X kc ks tgt L S ws) (kf : ¬ y ≤ x → kV X kc ks (pc + 3) L S ws) : kV X kc ks pc L (.int y :: .int x :: S) ws := by
  obtain ⟨p, l, e, R, s, m, args, below, meth, c, cells, slots, Qf, A, dC, dI, cA, ad, adV⟩ := X
  obtain ⟨hx, hb, hml, hown, hts, hK, hA, hlk, hfr, hlo, hce, hsl, hN⟩ := hX
  intro H locs ls hP hD hS hl
  exact lv_icmp_ge hx hb hd ht (fun h => kt h H locs ls hP hD hS hl) (fun h => kf h H locs ls hP hD hS hl)
theorem K_if_lt (hX : kOk cc nL own d mc ms X) {x : Int32} {off : Int} {tgt : Nat} (hd : decode cc pc = .ok (.ifCond .lt off, 3)) (ht : (pc : Int) + off = (tgt : Int)) (kt : x < 0 → kV X kc ks tgt L S ws) (kf : ¬ x < 0 → kV X kc ks (pc + 3) L S ws) : kV X kc ks pc L (.int x :: S) ws := by
  obtain ⟨p, l, e, R, s, m, args, below, meth, c, cells, slots, Qf, A, dC, dI, cA, ad, adV⟩ := X
  obtain ⟨hx, hb, hml, hown, hts, hK, hA, hlk, hfr, hlo, hce, hsl, hN⟩ := hX
  intro H locs ls hP hD hS hl
  exact lv_if_lt hx hb hd ht (fun h => kt h H locs ls hP hD hS hl) (fun h => kf h H locs ls hP hD hS hl)
theorem K_alen (hX : kOk cc nL own d mc ms X) {q0 a n : Nat} {f : Nat → Int32} (he : ws[q0]? = some (a, .inl (kA X, n, .inl f))) (hd : decode cc pc = .ok (.arraylength, 1)) (k : kV X kc ks (pc + 1) L (.int (nI n) :: S) ws) : kV X kc ks pc L (.ref a :: S) ws := by
  obtain ⟨p, l, e, R, s, m, args, below, meth, c, cells, slots, Qf, A, dC, dI, cA, ad, adV⟩ := X
  obtain ⟨hx, hb, hml, hown, hts, hK, hA, hlk, hfr, hlo, hce, hsl, hN⟩ := hX
  intro H locs ls hP hD hS hl
  exact va_alen hx hb hK hP q0 0 he rfl rfl hd (k H locs ls hP hD hS hl)
theorem K_obj (hX : kOk cc nL own d mc ms X) {i a : Nat} (hc : (inGd (.methodLink own i Lib.objectInit) && (inGd (.instanceMethod Lib.objectInit) && inGd (.code Lib.objectInit ⟨#[0xb1]⟩ 1 none))) = true) (hd1 : 1 ≤ d) (hS0 : (S.map fun v => v.category).sum ≤ 8) (hd : decode cc pc = .ok (.invokespecial i, 3)) (k : kV X kc ks (pc + 3) L S ws) : kV X kc ks pc L (.ref a :: S) ws := by
  obtain ⟨p, l, e, R, s, m, args, below, meth, c, cells, slots, Qf, A, dC, dI, cA, ad, adV⟩ := X
  obtain ⟨hx, hb, hml, hown, hts, hK, hA, hlk, hfr, hlo, hce, hsl, hN⟩ := hX
  simp only [Bool.and_eq_true] at hc
  intro H locs ls hP hD hS hl
  have hr := lv_room (m := m) (pc := pc) (ls := ls) (rest := .ref a :: S) hS0
  exact W.objInit hx hb hown (hts _ (inGd_mem hc.1)) (hts _ (inGd_mem hc.2.1)) (hts _ (inGd_mem hc.2.2)) rfl hl.1 rfl hd (by omega) (by omega) (k H locs ls hP hD hS hl)
theorem K_getf (hX : kOk cc nL own d mc ms X) {i ci j q0 a : Nat} {fs : List Value} {v : Value} (hf : flS own i ci j = true) (hcl : clOk ci = true) (he : ws[q0]? = some (a, .inr (ci, fs))) (hv : fs[j]? = some v) (hd : decode cc pc = .ok (.getfield i, 3)) (k : kV X kc ks (pc + 3) L (v :: S) ws) : kV X kc ks pc L (.ref a :: S) ws := by
  obtain ⟨p, l, e, R, s, m, args, below, meth, c, cells, slots, Qf, A, dC, dI, cA, ad, adV⟩ := X
  obtain ⟨hx, hb, hml, hown, hts, hK, hA, hlk, hfr, hlo, hce, hsl, hN⟩ := hX
  intro H locs ls hP hD hS hl
  unfold flS at hf
  cases hc : vwCl[ci]? with
  | none => rw [hc] at hf; cases hf
  | some q =>
    obtain ⟨C, T, N⟩ := q
    rw [hc] at hf
    simp only [Bool.and_eq_true, decide_eq_true_eq] at hf
    exact va_get hx hb hts (clOk_mem hcl hc) hown hK hP q0 he hc j hf.1 (hts _ (inGd_mem hf.2)) (fun _ z => z) hv hd (k H locs ls hP hD hS hl)
/-- field j of class ci of type ty, final or not -/
def pfOk (own : String) (ci j : Nat) (ty : FieldType) (fin : Bool) : Bool := match vwCl[ci]? with
  | some (_, T, N) => ((List.range N).all (fun a => (parseFieldDescriptor (T a).2.2.1).isSome) && (List.range N).all (fun a => (List.range N).all (fun b => a == b || (T a).2.1 != (T b).2.1))) && (((T j).2.2.2 == fin && decide ((T j).1 = own)) && decide (parseFieldDescriptor (T j).2.2.1 = some ty))
  | none => false
theorem K_putF (hX : kOk cc nL own d mc ms X) (hin : kIni X) {i ci j q0 a : Nat} {fs : List Value} {v : Value} {ty : FieldType} (hf : flS own i ci j = true) (hcl : clOk ci = true) (hp : pfOk own ci j ty true = true) (he : ws[q0]? = some (a, .inr (ci, fs))) (hjl : j < fs.length) (hn : narrow ty v = v) (hft : fits ty v = true) (hd : decode cc pc = .ok (.putfield i, 3)) (k : kV X kc ks (pc + 3) L S (ws.set q0 (a, .inr (ci, fs.set j v)))) : kV X kc ks pc L (v :: .ref a :: S) ws := by
  obtain ⟨p, l, e, R, s, m, args, below, meth, c, cells, slots, Qf, A, dC, dI, cA, ad, adV⟩ := X
  obtain ⟨hx, hb, hml, hown, hts, hK, hA, hlk, hfr, hlo, hce, hsl, hN⟩ := hX
  intro H locs ls hP hD hS hl
  unfold flS at hf
  cases hc : vwCl[ci]? with
  | none => rw [hc] at hf; cases hf
  | some q =>
    obtain ⟨C, T, N⟩ := q
    rw [hc] at hf
    simp only [Bool.and_eq_true, decide_eq_true_eq] at hf
    unfold pfOk at hp
    rw [hc] at hp
    simp only [Bool.and_eq_true, decide_eq_true_eq, beq_iff_eq] at hp
    exact va_putF (ty := ty) (v := v) hx hb hts (clOk_mem hcl hc) (fun j => (parseFieldDescriptor (T j).2.2.1).getD .int) (fun a ha => ptT hp.1.1 ha) (fun a ha b hb hab => ptN hp.1.2 ha hb hab) hown hK hP hD hS q0 he hc j hf.1 (hts _ (inGd_mem hf.2)) (fun _ z => z) hp.2.1.1 hin hp.2.1.2 hp.2.2 hn hft hjl hd (fun H1 locs1 hP1 hD1 hS1 => k H1 locs1 ls hP1 hD1 hS1 hl)
theorem K_putI (hX : kOk cc nL own d mc ms X) {i ci j q0 a : Nat} {fs : List Value} {x : Int32} (hf : flS own i ci j = true) (hcl : clOk ci = true) (hp : pfOk own ci j .int false = true) (he : ws[q0]? = some (a, .inr (ci, fs))) (hjl : j < fs.length) (hd : decode cc pc = .ok (.putfield i, 3)) (k : kV X kc ks (pc + 3) L S (ws.set q0 (a, .inr (ci, fs.set j (.int x))))) : kV X kc ks pc L (.int x :: .ref a :: S) ws := by
  obtain ⟨p, l, e, R, s, m, args, below, meth, c, cells, slots, Qf, A, dC, dI, cA, ad, adV⟩ := X
  obtain ⟨hx, hb, hml, hown, hts, hK, hA, hlk, hfr, hlo, hce, hsl, hN⟩ := hX
  intro H locs ls hP hD hS hl
  unfold flS at hf
  cases hc : vwCl[ci]? with
  | none => rw [hc] at hf; cases hf
  | some q =>
    obtain ⟨C, T, N⟩ := q
    rw [hc] at hf
    simp only [Bool.and_eq_true, decide_eq_true_eq] at hf
    unfold pfOk at hp
    rw [hc] at hp
    simp only [Bool.and_eq_true, decide_eq_true_eq, beq_iff_eq] at hp
    exact va_put (ty := .int) (v := .int x) hx hb hts (clOk_mem hcl hc) (fun j => (parseFieldDescriptor (T j).2.2.1).getD .int) (fun a ha => ptT hp.1.1 ha) (fun a ha b hb hab => ptN hp.1.2 ha hb hab) hown hK hP hD hS q0 he hc j hf.1 (hts _ (inGd_mem hf.2)) (fun _ z => z) hp.2.1.1 hp.2.2 rfl rfl hjl hd (fun H1 locs1 hP1 hD1 hS1 => k H1 locs1 ls hP1 hD1 hS1 hl)
theorem K_newa (hX : kOk cc nL own d mc ms X) {n : Nat} {x : Int32} (hy : inGd (.arrayClass .int) = true) (hx0 : x = nI n) (hn : n < 65536) (hkc : kc + 1 ≤ mc) (hks : ks + n ≤ ms) (hd : decode cc pc = .ok (.newarray .int, 2)) (k : ∀ q : Nat, kV X (kc + 1) (ks + n) (pc + 2) L (.ref q :: S) (ws ++ [(q, .inl (kA X, n, .inl (fun _ => 0)))])) : kV X kc ks pc L (.int x :: S) ws := by
  obtain ⟨p, l, e, R, s, m, args, below, meth, c, cells, slots, Qf, A, dC, dI, cA, ad, adV⟩ := X
  obtain ⟨hx, hb, hml, hown, hts, hK, hA, hlk, hfr, hlo, hce, hsl, hN⟩ := hX
  intro H locs ls hP hD hS hl
  subst hx0
  refine va_newa (ty := .int) (atype := .int) (a0 := (n, .inl (fun _ => 0))) (N' := n) hx hb (hts _ (inGd_mem hy)) rfl hK hP hD hS hA (fun cA => ?_) (nI_pos (by omega)) (nI_clamp (by omega)) (by show n * 4 ≤ _; omega) (by omega) (by omega) hd (fun q cB H1 hK1 hP1 hD1 hS1 => ?_)
  · rfl
  · have e : cB = cA := cA_eq hK1
    subst e
    exact k q H1 locs ls hP1 hD1 hS1 hl
theorem K_new (hX : kOk cc nL own d mc ms X) {i ci N : Nat} {C : String} {T : u_T} {fs : List Value} (hc : vwCl[ci]? = some (C, T, N)) (hcl : clOk ci = true) (hw : (inGd (.classLink own i C) && (inGd (.instantiable C N) && inGd (.initialized C))) = true) (hty : (List.range N).all (fun a => (parseFieldDescriptor (T a).2.2.1).isSome) = true) (hfs : ∀ j, j < N → defaultValue ((parseFieldDescriptor (T j).2.2.1).getD .int) = vp_V fs j) (hkc : kc + 1 ≤ mc) (hks : ks + N ≤ ms) (hd : decode cc pc = .ok (.new i, 3)) (k : ∀ q : Nat, kV X (kc + 1) (ks + N) (pc + 3) L (.ref q :: S) (ws ++ [(q, .inr (ci, fs))])) : kV X kc ks pc L S ws := by
  obtain ⟨p, l, e, R, s, m, args, below, meth, c, cells, slots, Qf, A, dC, dI, cA, ad, adV⟩ := X
  obtain ⟨hx, hb, hml, hown, hts, hK, hA, hlk, hfr, hlo, hce, hsl, hN⟩ := hX
  simp only [Bool.and_eq_true] at hw
  intro H locs ls hP hD hS hl
  exact va_new hx hb hts (clOk_mem hcl hc) (fun j => (parseFieldDescriptor (T j).2.2.1).getD .int) (fun a ha => ptT hty ha) hown (hts _ (inGd_mem hw.1)) (hts _ (inGd_mem hw.2.1)) (hts _ (inGd_mem hw.2.2)) hK hP hD hS hA hc hfs (by omega) (by omega) hd (fun q H1 hP1 hD1 hS1 => k q H1 locs ls hP1 hD1 hS1 hl)
theorem K_iast (hX : kOk cc nL own d mc ms X) {q0 a n : Nat} {f : Nat → Int32} {i x : Int32} (he : ws[q0]? = some (a, .inl (kA X, n, .inl f))) (hi : vp_in i n) (hd : decode cc pc = .ok (.iastore, 1)) (k : kV X kc ks (pc + 1) L S (ws.set q0 (a, .inl (kA X, n, .inl (upd f (ix i) x))))) : kV X kc ks pc L (.int x :: .int i :: .ref a :: S) ws := by
  obtain ⟨p, l, e, R, s, m, args, below, meth, c, cells, slots, Qf, A, dC, dI, cA, ad, adV⟩ := X
  obtain ⟨hx, hb, hml, hown, hts, hK, hA, hlk, hfr, hlo, hce, hsl, hN⟩ := hX
  intro H locs ls hP hD hS hl
  exact va_iast hx hb hK hP hD hS q0 0 he rfl hi hd (fun H1 locs1 hP1 hD1 hS1 => k H1 locs1 ls hP1 hD1 hS1 hl)
/-- the same cells in another order -/
theorem K_mask (m : List Bool) (k : kV X kc ks pc (mkL m L) S ws) : kV X kc ks pc L S ws := by
  obtain ⟨p, l, e, R, s, mm, args, below, meth, c, cells, slots, Qf, A, dC, dI, cA, ad, adV⟩ := X
  intro H locs ls hP hD hS hl
  exact k H locs ls hP hD hS ⟨hl.1, hl.2.1, fun i v h => hl.2.2 i v (mkL_at m L i v h)⟩
theorem K_widen {kc2 ks2 : Nat} (h1 : kc ≤ kc2) (h2 : ks ≤ ks2) (k : kV X kc2 ks2 pc L S ws) : kV X kc ks pc L S ws := by
  obtain ⟨p, l, e, R, s, mm, args, below, meth, c, cells, slots, Qf, A, dC, dI, cA, ad, adV⟩ := X
  intro H locs ls hP hD hS hl
  exact W.widen h1 h2 (k H locs ls hP hD hS hl)
end KR
/-- CONTRACTS: y is called with As on the cells ws, makes mc cells of ms slots, and leaves ws' u, u the addresses of what it made -/
def kQ (dC : Nat → ClassId) (dI : Nat → Nat → Nat) (ws' : List Nat → va_W) (A : Nat → Prop) : Array Value → State → Outcome → State → Prop := fun _ st oc t => (oc = .returned none ∧ ∃ u : List Nat, va_P (dC, dI) vwCl (ws' u) t.heap ∧ va_D A (ws' u)) ∧ va_F A st t
def kPre (dC : Nat → ClassId) (dI : Nat → Nat → Nat) (cA : ClassId) (sz : Nat) (ws : va_W) (U : State) : Prop := U.heap.size = sz ∧ va_P (dC, dI) vwCl ws U.heap ∧ va_K (dC, dI) vwCl [(cA, .int)] U ∧ va_D (fun _ => True) ws ∧ ∀ w ∈ lw_nest, va_Nw w U
def kCon (d : Nat) (y : MethodName) (cc : ByteArray) (nL mc ms : Nat) (cA : ClassId) (As : List Value) (ws : va_W) (ws' : List Nat → va_W) : Prop := ∀ (l : Launch) (dC : Nat → ClassId) (dI : Nat → Nat → Nat) (sz : Nat), Met l y (.code y cc nL none :: lw_gd) { frames := d, cells := mc, slots := ms, locals := 40 * d } (va_Pc As (kPre dC dI cA sz ws)) (kQ dC dI ws' (va_A ws sz)) mc ms (va_A ws sz)
def kEnd (mc ms : Nat) (ws' : List Nat → va_W) (X : bX) : Prop := match X with
  | (_, _, _, _, s, _, args, below, meth, _, _, _, Qf, A, dC, dI, _, _, _) => meth.sig.returnType = none ∧ Qf = MQ below (kQ dC dI ws' A) args s mc ms A
theorem K_vret {cc : ByteArray} {nL d mc ms pc : Nat} {own : String} {X : bX} {L : List (Option Value)} {ws : va_W} {ws' : List Nat → va_W} (hX : kOk cc nL own d mc ms X) (hE : kEnd mc ms ws' X) (u : List Nat) (hu : ws' u = ws) (hd : decode cc pc = .ok (.return_, 1)) : kV X mc ms pc L [] ws := by
  obtain ⟨p, l, e, R, s, m, args, below, meth, c, cells, slots, Qf, A, dC, dI, cA, ad, adV⟩ := X
  obtain ⟨hx, hb, hml, hown, hts, hK, hA, hlk, hfr, hlo, hce, hsl, hN⟩ := hX
  obtain ⟨hr, rfl⟩ := hE
  intro H locs ls hP hD hS hl
  exact W.vret hx hb hr (fun t ht hW => ⟨⟨rfl, u, by rw [ht, hu]; exact hP, by rw [hu]; exact hD⟩, hS.F ht⟩) hS.2.2 hd (hlocks := hlk)
theorem kCon_of {d : Nat} {y : MethodName} {cc : ByteArray} {nL mc ms : Nat} {cA : ClassId} {As : List Value} {ws : va_W} {ws' : List Nat → va_W} (hy : plainName y.cls = true) (hn : (lg_sl As).length ≤ nL) (hid : ∀ v ∈ As, vm id v = v)
    (body : ∀ X : bX, kOk cc nL y.cls d mc ms X → kEnd mc ms ws' X → kA X = cA → (y.name = "<init>" → kIni X) → kV X 0 0 0 (argL nL As) [] ws) : kCon d y cc nL mc ms cA As ws ws' := by
  intro l dC dI sz
  refine Met.ofW (cc := cc) (maxL := nL) (ret := none) hy rfl ?_
  intro p e s m args below meth c s₁ B hml hv
  obtain ⟨rfl, hsz, hP, hK, hD0, hN⟩ := hv
  subst hsz
  have hts := atoms_spec (ws := .code y cc nL none :: lw_gd) B.pre
  have hown : s.vm.findClass y.cls = some m.cls := findClass_of_methodNamed B.named
  have hin : y.name = "<init>" → meth.name = "<init>" := fun hi => (name_of_methodNamed B.named B.method).1.trans hi
  have b := body (p, l, e, { frames := d, cells := mc, slots := ms, locals := 40 * d }, s, m, As.toArray, below, meth, c, 0, 0, MQ below (kQ dC dI ws' (va_A ws s.heap.size)) As.toArray s mc ms (va_A ws s.heap.size), va_A ws s.heap.size, dC, dI, cA, id, id)
    ⟨B.exec, B.bytes, hml, hown, fun q hq => hts q (List.mem_cons_of_mem _ hq), hK, fun q h => Or.inr h, B.notSynchronized, Nat.le_refl _, Nat.le_refl _, Nat.le_refl _, Nat.le_refl _, hN⟩ ⟨B.returns, rfl⟩ rfl hin
  rw [lg_entry_eq]
  refine b s.heap [] _ hP hD0.self va_S.rf ?_
  rw [hml]
  have e : As.map (vm id) = As := by
    have : As.map (vm id) = As.map (fun v => v) := List.map_congr_left hid
    simpa using this
  refine argL_LH ?_
  rw [e]
  exact lv_entry As hn
theorem kFB {av : List Value} {dC : Nat → ClassId} {dI : Nat → Nat → Nat} {cA : ClassId} {sz : Nat} {ws : va_W} : FrameBlind (va_Pc av (kPre dC dI cA sz ws)) := by
  intro a U g mk h
  obtain ⟨h0, h1, h2, h3, h4, h5⟩ := h
  exact ⟨h0, h1, h2, va_K.moved (u := U) (U := U.calling g mk a) (Vm.Alike.refl U.vm) h3, h4, nest_same (s := U) (U := U.calling g mk a) rfl h5⟩
/-- behind a call of a maker -/
theorem kcallG {p : Program} {l : Launch} {e : Env} {R : Room} {s : State} {m : MethodId} {args : Array Value} {below : List Frame} {meth : Method} {c : Code} {H H0 : Heap} {locs : List Loc} {cells slots pc mc ms : Nat} {Q : State → Prop} {ls : Array Slot} {st0 rest : List Value} {dC : Nat → ClassId} {dI : Nat → Nat → Nat} {ws' : List Nat → va_W} {A0 A1 : Nat → Prop} {a : Array Value}
    (hr : va_Run p l e R s m args below meth c H locs cells slots mc ms (F0 m pc ls st0) rest (kQ dC dI ws' A1 a) A1) (hS : va_S A0 H0 H locs) (hA : ∀ q, A1 q → A0 q)
    (kk : ∀ (u : List Nat) (H1 : Heap) (locs1 : List Loc), va_P (dC, dI) vwCl (ws' u) H1 → va_D A1 (ws' u) → (∀ q : Nat, q < H.size → ¬ A1 q → H1[q]? = H[q]?) → va_S A0 H0 H1 locs1 → W p l e R s m args below meth c H1 locs1 (cells + mc) (slots + ms) Q (F0 m (pc + 3) ls rest)) : W p l e R s m args below meth c H locs cells slots Q (F0 m pc ls st0) := by
  intro T hT X
  obtain ⟨v, st₀, t, T', L, h0, X', hL, e1, e2, ⟨⟨hv, u, hP, hD⟩, hz, hk⟩, st⟩ := hr T hT X
  cases hv
  rw [h0] at hz hk
  obtain ⟨t2, a1, b1⟩ := kk u T'.heap (locs ++ L) (by rw [e1]; exact hP) hD (fun q h1 h2 => by rw [e1]; exact hk q h1 h2)
    ⟨Nat.le_trans hS.1 (by rw [e1]; exact hz), fun q h1 h2 => by rw [e1, hk q (Nat.lt_of_lt_of_le h1 hS.1) (fun z => h2 (hA q z))]; exact hS.2.1 q h1 h2, fun q hq => by
      rcases List.mem_append.mp hq with h | h
      · exact hS.2.2 q h
      · exact hA _ (hL q h)⟩ T' rfl X'
  exact ⟨t2, st t2 a1, b1⟩
section KC
variable {cc cy : ByteArray} {nL d mc ms mcy msy pc kc ks i n ny : Nat} {own : String} {X : bX} {L : List (Option Value)} {S As : List Value} {ws wc wr : va_W} {w1 : List Nat → va_W} {y : MethodName}
/-- a maker's call: wc the cells that it gets, at the places isC; wr the rest, at isR -/
theorem K_callI {b : Nat} (hX : kOk cc nL own (d + 1) mc ms X) (hC : kCon d y cy ny mcy msy (kA X) (.ref b :: As) wc w1) (hl : lkOk own i y = true) (hm : mdOk y n = true) (hv : inGd (.instanceMethod y) = true) (hyn : y.name = "<init>") (hco : inGd (.code y cy ny none) = true) (hny : ny ≤ 21)
    (isC isR : List Nat) (hwc : isC.map (fun i => ws[i]?) = wc.map some) (hwr : isR.map (fun i => ws[i]?) = wr.map some) (hnc : va_nd isC = true) (hnr : va_nd isR = true) (hdis : ∀ i ∈ isR, i ∉ isC) (hpl : isC.filterMap (fun i => ws[i]?) = wc)
    (hn : As.length = n) (hr : (S.map fun v => v.category).sum ≤ 8) (hkc : kc + mcy ≤ mc) (hks : ks + msy ≤ ms) (hd : decode cc pc = .ok (.invokespecial i, 3)) (k : ∀ u : List Nat, kV X (kc + mcy) (ks + msy) (pc + 3) L S (wr ++ w1 u)) : kV X kc ks pc L (As.reverse ++ .ref b :: S) ws := by
  obtain ⟨p, l, e, R, s, m, args, below, meth, c, cells, slots, Qf, A, dC, dI, cA, ad, adV⟩ := X
  obtain ⟨hx, hbc, hml, hown, hts, hK, hA, hlk, hfr, hlo, hce, hsl, hN⟩ := hX
  intro H locs ls hP hD hS hll
  simp only [mdOk, Bool.and_eq_true, decide_eq_true_eq] at hm
  have hM := hC l dC dI H.size
  have hPc := hP.sub isC hpl
  have hDc := hD.sub isC hnc hwc
  have hFc := va_free (wc := wc) hD hS hA isC hwc
  have hpre : PreS s H (va_Pc (.ref b :: As) (kPre dC dI cA H.size wc)) (.ref b :: As) :=
    ⟨kFB, fun U hU hW => ⟨rfl, by rw [hU], by rw [hU]; exact hPc, va_K.moved hW.alike hK, hDc.weaken (fun _ _ _ _ => trivial), nest_warm hW hN⟩⟩
  have hrm : d + 1 ≤ R.frames ∧ 8 + (ny + 11) + 40 * d ≤ R.locals := ⟨hfr, by omega⟩
  refine kcallG (pc := pc) (mc := mcy) (ms := msy) (?_ : va_Run p l e R s m args below meth c H locs kc ks mcy msy (F0 m pc ls (As.reverse ++ .ref b :: S)) S (kQ dC dI w1 (va_A wc H.size) (Value.ref b :: As).toArray) (va_A wc H.size)) hS hFc (fun u H1 locs1 hP1 hD1 hk1 hS1 => ?_)
  · simp only [lkOk, Bool.or_eq_true] at hl
    rcases hl with h | h
    · exact va_runI (n := n) (nL := nL) ⟨hx, hbc, hml, hown, hts⟩ hM ⟨callB_of n hts (gd_self hco) rfl rfl rfl (hts _ (inGd_mem hm.2.2)) (hts _ (inGd_mem h)) ⟨hm.1.1, hm.1.2, hm.2.1⟩ hrm, hyn, hts _ (inGd_mem hv)⟩ hpre rfl hn (hll.1.trans hml) rfl (lv_room hr) hd ⟨by omega, by omega⟩
    · exact va_runIN (host := "BentFurrows") (n := n) (nL := nL) ⟨hx, hbc, hml, hown, hts⟩ hM ⟨va_cnB n hts (gd_self hco) rfl rfl rfl (hN _ (inNe_mem h)) (hts _ (inGd_mem hm.2.2)) ⟨hm.1.1, hm.1.2, hm.2.1⟩ hrm, hyn, hts _ (inGd_mem hv)⟩ hpre rfl hn (hll.1.trans hml) rfl (lv_room hr) hd ⟨by omega, by omega⟩
  · obtain ⟨hP2, hD2⟩ := va_join (wr := wr) (w1 := w1 u) hP hD isC isR hwc hwr hnr hdis hk1 hFc hP1 hD1
    exact k u H1 locs1 ls hP2 hD2 hS1 hll
/-- put on one array -/
theorem K_callP (hX : kOk cc nL own (d + 1) mc ms X) {x v : Int32} {a q0 N : Nat} {f : Nat → Int32} (hC : kCon d y cy ny 0 0 (kA X) [.ref a, .int x, .int v] [(a, .inl (kA X, N, .inl f))] w1) (hl : lkOk own i y = true) (hm : mdOk y 3 = true) (hv : isOk y = true) (hco : inGd (.code y cy ny none) = true) (hny : ny ≤ 21)
    (isR : List Nat) (hq : ws[q0]? = some (a, .inl (kA X, N, .inl f))) (hwr : isR.map (fun i => ws[i]?) = wr.map some) (hnr : va_nd isR = true) (hdis : ∀ i ∈ isR, i ∉ [q0])
    (hr : (S.map fun v => v.category).sum ≤ 8) (hkc : kc ≤ mc) (hks : ks ≤ ms) (hd : decode cc pc = .ok (.invokestatic i, 3)) (k : ∀ u : List Nat, kV X kc ks (pc + 3) L S (wr ++ w1 u)) : kV X kc ks pc L (.int v :: .int x :: .ref a :: S) ws := by
  obtain ⟨p, l, e, R, s, m, args, below, meth, c, cells, slots, Qf, A, dC, dI, cA, ad, adV⟩ := X
  obtain ⟨hx, hbc, hml, hown, hts, hK, hA, hlk, hfr, hlo, hce, hsl, hN⟩ := hX
  intro H locs ls hP hD hS hll
  simp only [mdOk, isOk, Bool.and_eq_true, decide_eq_true_eq] at hm hv
  have hM := hC l dC dI H.size
  have hwc : [q0].map (fun i => ws[i]?) = [(a, .inl (cA, N, .inl f))].map some := by show [ws[q0]?] = _; rw [hq]; rfl
  have hPc := hP.sub (ws' := [(a, .inl (cA, N, .inl f))]) [q0] (by show List.filterMap _ [q0] = _; simp only [List.filterMap_cons, hq, List.filterMap_nil]; rfl)
  have hDc := hD.sub (ws' := [(a, .inl (cA, N, .inl f))]) [q0] rfl hwc
  have hFc := va_free (wc := [(a, .inl (cA, N, .inl f))]) hD hS hA [q0] hwc
  have hpre : PreS s H (va_Pc [.ref a, .int x, .int v] (kPre dC dI cA H.size [(a, .inl (cA, N, .inl f))])) [.ref a, .int x, .int v] :=
    ⟨kFB, fun U hU hW => ⟨rfl, by rw [hU], by rw [hU]; exact hPc, va_K.moved hW.alike hK, hDc.weaken (fun _ _ _ _ => trivial), nest_warm hW hN⟩⟩
  have hrm : d + 1 ≤ R.frames ∧ 8 + (ny + 11) + 40 * d ≤ R.locals := ⟨hfr, by omega⟩
  refine kcallG (pc := pc) (mc := 0) (ms := 0) (?_ : va_Run p l e R s m args below meth c H locs kc ks 0 0 (F0 m pc ls (.int v :: .int x :: .ref a :: S)) S (kQ dC dI w1 (va_A [(a, .inl (cA, N, .inl f))] H.size) ([.ref a, .int x, .int v] : List Value).toArray) (va_A [(a, .inl (cA, N, .inl f))] H.size)) hS hFc (fun u H1 locs1 hP1 hD1 hk1 hS1 => ?_)
  · simp only [lkOk, Bool.or_eq_true] at hl
    rcases hl with h | h
    · exact va_runS (As := [.ref a, .int x, .int v]) (n := 3) (nL := nL) ⟨hx, hbc, hml, hown, hts⟩ hM ⟨callB_of 3 hts (gd_self hco) rfl rfl rfl (hts _ (inGd_mem hm.2.2)) (hts _ (inGd_mem h)) ⟨hm.1.1, hm.1.2, hm.2.1⟩ hrm, hts _ (inGd_mem hv)⟩ hpre rfl rfl (hll.1.trans hml) rfl (lv_room hr) hd ⟨by omega, by omega⟩
    · exact va_runSN (As := [.ref a, .int x, .int v]) (host := "BentFurrows") (n := 3) (nL := nL) ⟨hx, hbc, hml, hown, hts⟩ hM ⟨va_cnB 3 hts (gd_self hco) rfl rfl rfl (hN _ (inNe_mem h)) (hts _ (inGd_mem hm.2.2)) ⟨hm.1.1, hm.1.2, hm.2.1⟩ hrm, hts _ (inGd_mem hv), trivial⟩ hpre rfl rfl (hll.1.trans hml) rfl (lv_room hr) hd ⟨by omega, by omega⟩
  · obtain ⟨hP2, hD2⟩ := va_join (wr := wr) (w1 := w1 u) hP hD [q0] isR hwc hwr hnr hdis hk1 hFc hP1 hD1
    exact k u H1 locs1 ls hP2 hD2 hS1 hll
end KC
/-- put, on one array alone -/
def putW (cA : ClassId) (a N : Nat) (f : Nat → Int32) (i x : Int32) : va_W := [(a, .inl (cA, N, .inl (if i < 0 then f else if nI N ≤ i then f else upd f (ix i) x)))]
theorem k_put {d : Nat} {cA : ClassId} {a N : Nat} (hN : N < 2 ^ 31) {f : Nat → Int32} {i x : Int32} : kCon d yX9_put cX9_put 3 0 0 cA [.ref a, .int i, .int x] [(a, .inl (cA, N, .inl f))] (fun _ => putW cA a N f i x) := by
  refine kCon_of (by decide) (Nat.le_of_ble_eq_true rfl) (by intro v hv; simp at hv; rcases hv with rfl | rfl | rfl <;> rfl) (fun X hX hE hc _ => ?_)
  subst hc
  have hX : kOk cX9_put 3 RX9 d 0 0 X := hX
  show kV X 0 0 0 [some (.ref a), some (.int i), some (.int x)] [] _
  refine K_iload_n hX dX9_put_0 rfl rfl ?_
  refine K_if_lt (tgt := 14) hX dX9_put_1 (by decide) (fun h => ?_) (fun h => ?_)
  · exact K_vret hX hE [] (by simp only [putW, if_pos h]) dX9_put_14
  · refine K_iload_n hX dX9_put_4 rfl rfl ?_
    refine K_aload_n hX dX9_put_5 rfl rfl ?_
    refine K_alen hX (q0 := 0) rfl dX9_put_6 ?_
    refine K_icmp_ge (tgt := 14) hX dX9_put_7 (by decide) (fun h1 => ?_) (fun h1 => ?_)
    · exact K_vret hX hE [] (by simp only [putW, if_neg h, if_pos h1]) dX9_put_14
    · refine K_aload_n hX dX9_put_10 rfl rfl ?_
      refine K_iload_n hX dX9_put_11 rfl rfl ?_
      refine K_iload_n hX dX9_put_12 rfl rfl ?_
      refine K_iast hX (q0 := 0) rfl (in_of hN h h1) dX9_put_13 ?_
      exact K_vret hX hE [] (by simp only [putW, if_neg h, if_neg h1]; rfl) dX9_put_14
