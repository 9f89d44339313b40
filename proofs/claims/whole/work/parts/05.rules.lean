/-! THE JUDGEMENT. bX: the machine's own things in a method's run (program, launch, .. , the room used, what is to come, the frame, the classes' numbers, the addresses). bV X pc L S w: from pc with locals L, stack S, world w the machine comes where X says. -/
abbrev bX : Type := Program × Launch × Env × Room × State × MethodId × Array Value × List Frame × Method × Code × Nat × Nat × (State → Prop) × (Nat → Prop) × (Nat → ClassId) × (Nat → Nat → Nat) × ClassId × (Nat → Nat) × (Nat → Nat)
/-- the locals: by their places; none: nothing is known of it -/
def LH (ad : Nat → Nat) (ls : Array Slot) (nL : Nat) (L : List (Option Value)) : Prop := ls.size = nL ∧ lv_wf ls ∧ ∀ (i : Nat) (v : Value), L[i]? = some (some v) → ls[i]? = some (.val (vm ad v))
def bV (X : bX) (pc : Nat) (L : List (Option Value)) (S : List Value) (w : Wd) : Prop := match X with
  | (p, l, e, R, s, m, args, below, meth, c, cells, slots, Qf, A, dC, dI, cA, ad, _) => ∀ (H : Heap) (locs : List Loc) (ls : Array Slot), va_P (dC, dI) vwCl (wsOf cA ad w) H → va_S A s.heap H locs → LH ad ls c.maxLocals L → W p l e R s m args below meth c H locs cells slots Qf (F0 m pc ls (S.map (vm ad)))
/-- what holds all through a method's run: d calls may stand open above it -/
def bOk (cc : ByteArray) (nL : Nat) (own : String) (d : Nat) (X : bX) : Prop := match X with
  | (p, _, _, R, s, m, args, _, meth, c, cells, slots, _, A, dC, dI, cA, ad, adV) => p.tables.exec = Jvm.exec ∧ c.code = cc ∧ c.maxLocals = nL ∧ s.vm.findClass own = some m.cls ∧ (∀ w ∈ lw_gd, w.before args s = true) ∧ va_K (dC, dI) vwCl [(cA, .int)] s ∧ (∀ q, s.heap.size ≤ q → A q) ∧ meth.locks = false ∧ d ≤ R.frames ∧ 40 * d ≤ R.locals ∧ cells ≤ R.cells ∧ slots ≤ R.slots ∧ StA ad adV A s ∧ adI ad ∧ ∀ k, k < 57 → A (ad k)
/-- the locals as the kit's list -/
def lsL (ad : Nat → Nat) (L : List (Option Value)) : List (Nat × Value) := (List.range L.length).filterMap (fun i => (L[i]?.join).map (fun v => (i, vm ad v)))
theorem lsL_mem {ad : Nat → Nat} {L : List (Option Value)} {i : Nat} {u : Value} : (i, u) ∈ lsL ad L ↔ ∃ v, L[i]? = some (some v) ∧ u = vm ad v := by
  unfold lsL
  rw [List.mem_filterMap]
  constructor
  · rintro ⟨a, -, ha⟩
    cases hj : L[a]?.join with
    | none => rw [hj] at ha; cases ha
    | some v =>
      rw [hj] at ha
      simp only [Option.map_some, Option.some.injEq, Prod.mk.injEq] at ha
      obtain ⟨rfl, rfl⟩ := ha
      refine ⟨v, ?_, rfl⟩
      cases hq : L[a]? with
      | none => rw [hq] at hj; cases hj
      | some o => rw [hq] at hj; simp only [Option.join_some] at hj; rw [hj]
  · rintro ⟨v, hv, rfl⟩
    refine ⟨i, List.mem_range.mpr (List.getElem?_eq_some_iff.mp hv).1, ?_⟩
    rw [hv]; rfl
theorem LH.kit {ad : Nat → Nat} {ls : Array Slot} {nL : Nat} {L : List (Option Value)} (h : LH ad ls nL L) : lv_has ls nL (lsL ad L) := by
  refine ⟨h.1, h.2.1, fun q hq => ?_⟩
  obtain ⟨i, u⟩ := q
  obtain ⟨v, hv, rfl⟩ := lsL_mem.mp hq
  exact h.2.2 i v hv
/-- no long just ahead of the place i -/
def noL (L : List (Option Value)) (i : Nat) : Bool := match i with
  | 0 => true
  | j + 1 => match L[j]? with
    | some (some v) => v.category != 2
    | _ => true
theorem LH.set {ad : Nat → Nat} {ls' : Array Slot} {nL : Nat} {L : List (Option Value)} {i : Nat} {v : Value} (hn : noL L i = true) (h : lv_has ls' nL ((i, vm ad v) :: (lsL ad L).filter (fun q => !(q.1 == i) && !(q.1 + 1 == i && q.2.category == 2)))) : LH ad ls' nL (L.set i (some v)) := by
  refine ⟨h.1, h.2.1, fun j u hj => ?_⟩
  rw [List.getElem?_set] at hj
  by_cases e : i = j
  · subst e
    rw [if_pos rfl] at hj
    split at hj
    · simp only [Option.some.injEq] at hj
      subst hj
      exact h.2.2 (i, vm ad v) List.mem_cons_self
    · cases hj
  · rw [if_neg e] at hj
    refine h.2.2 (j, vm ad u) (List.mem_cons_of_mem _ (List.mem_filter.mpr ⟨lsL_mem.mpr ⟨u, hj, rfl⟩, ?_⟩))
    simp only [Bool.and_eq_true, Bool.not_eq_true', beq_eq_false_iff_ne, ne_eq, Bool.and_eq_false_iff]
    refine ⟨fun z => e z.symm, ?_⟩
    by_cases z : j + 1 = i
    · right
      subst z
      simp only [noL, hj] at hn
      rw [vm_cat]
      simpa using hn
    · left; exact z
section RULES
variable {cc : ByteArray} {nL d pc : Nat} {own : String} {X : bX} {L : List (Option Value)} {S : List Value} {w : Wd}

theorem V_iconst (hX : bOk cc nL own d X) {n : Int} {v : Int32} (hd : decode cc pc = .ok (.iconst n, 1)) (hv : Int32.ofInt n = v)
    (k : bV X (pc + 1) L (.int v :: S) w) : bV X pc L S w := by
  obtain ⟨p, l, e, R, s, m, args, below, meth, c, cells, slots, Qf, A, dC, dI, cA, ad, adV⟩ := X
  obtain ⟨hx, hb, hml, hown, hts, hK, hA, hlk, hfr, hlo, hce, hsl, hSt, hI, hAk⟩ := hX
  intro H locs ls hP hS hl
  exact lv_iconst hx hb hd hv (k H locs ls hP hS hl)
theorem V_bipush (hX : bOk cc nL own d X) {n : Int} {v : Int32} (hd : decode cc pc = .ok (.bipush n, 2)) (hv : (Int8.ofInt n).toInt32 = v)
    (k : bV X (pc + 2) L (.int v :: S) w) : bV X pc L S w := by
  obtain ⟨p, l, e, R, s, m, args, below, meth, c, cells, slots, Qf, A, dC, dI, cA, ad, adV⟩ := X
  obtain ⟨hx, hb, hml, hown, hts, hK, hA, hlk, hfr, hlo, hce, hsl, hSt, hI, hAk⟩ := hX
  intro H locs ls hP hS hl
  exact lv_bipush hx hb hd hv (k H locs ls hP hS hl)
theorem V_sipush (hX : bOk cc nL own d X) {n : Int} {v : Int32} (hd : decode cc pc = .ok (.sipush n, 3)) (hv : (Int16.ofInt n).toInt32 = v)
    (k : bV X (pc + 3) L (.int v :: S) w) : bV X pc L S w := by
  obtain ⟨p, l, e, R, s, m, args, below, meth, c, cells, slots, Qf, A, dC, dI, cA, ad, adV⟩ := X
  obtain ⟨hx, hb, hml, hown, hts, hK, hA, hlk, hfr, hlo, hce, hsl, hSt, hI, hAk⟩ := hX
  intro H locs ls hP hS hl
  exact lv_sipush hx hb hd hv (k H locs ls hP hS hl)
theorem V_lconst (hX : bOk cc nL own d X) {n : Fin 2} {v : Int64} (hd : decode cc pc = .ok (.lconst n, 1)) (hv : Int64.ofNat (n : Nat) = v)
    (k : bV X (pc + 1) L (.long v :: S) w) : bV X pc L S w := by
  obtain ⟨p, l, e, R, s, m, args, below, meth, c, cells, slots, Qf, A, dC, dI, cA, ad, adV⟩ := X
  obtain ⟨hx, hb, hml, hown, hts, hK, hA, hlk, hfr, hlo, hce, hsl, hSt, hI, hAk⟩ := hX
  intro H locs ls hP hS hl
  exact lv_lconst hx hb hd hv (k H locs ls hP hS hl)
theorem V_ldc2 (hX : bOk cc nL own d X) {i : Nat} {v : Int64} (hc : inGd (.constantLong own i v) = true) (hd : decode cc pc = .ok (.ldc2_w i, 3))
    (k : bV X (pc + 3) L (.long v :: S) w) : bV X pc L S w := by
  obtain ⟨p, l, e, R, s, m, args, below, meth, c, cells, slots, Qf, A, dC, dI, cA, ad, adV⟩ := X
  obtain ⟨hx, hb, hml, hown, hts, hK, hA, hlk, hfr, hlo, hce, hsl, hSt, hI, hAk⟩ := hX
  intro H locs ls hP hS hl
  exact lv_ldc2 hx hb hown (hts _ (inGd_mem hc)) hd (k H locs ls hP hS hl)
theorem V_ldcw (hX : bOk cc nL own d X) {i : Nat} {v : Int32} (hc : inGd (.constant own i v) = true) (hd : decode cc pc = .ok (.ldc_w i, 3))
    (k : bV X (pc + 3) L (.int v :: S) w) : bV X pc L S w := by
  obtain ⟨p, l, e, R, s, m, args, below, meth, c, cells, slots, Qf, A, dC, dI, cA, ad, adV⟩ := X
  obtain ⟨hx, hb, hml, hown, hts, hK, hA, hlk, hfr, hlo, hce, hsl, hSt, hI, hAk⟩ := hX
  intro H locs ls hP hS hl
  exact lv_ldcw hx hb hown (hts _ (inGd_mem hc)) hd (k H locs ls hP hS hl)
theorem V_iload_n (hX : bOk cc nL own d X) {j : Fin 4} {i : Nat} {x : Int32} (hd : decode cc pc = .ok (.iload_n j, 1)) (hi : (j : Nat) = i) (hL : L[i]? = some (some (.int x)))
    (k : bV X (pc + 1) L (.int x :: S) w) : bV X pc L S w := by
  obtain ⟨p, l, e, R, s, m, args, below, meth, c, cells, slots, Qf, A, dC, dI, cA, ad, adV⟩ := X
  obtain ⟨hx, hb, hml, hown, hts, hK, hA, hlk, hfr, hlo, hce, hsl, hSt, hI, hAk⟩ := hX
  intro H locs ls hP hS hl
  exact lv_iload_n hx hb hd hi (hl.2.2 i _ hL) (k H locs ls hP hS hl)
theorem V_iload (hX : bOk cc nL own d X) {i : Nat} {x : Int32} (hd : decode cc pc = .ok (.iload i, 2)) (hL : L[i]? = some (some (.int x)))
    (k : bV X (pc + 2) L (.int x :: S) w) : bV X pc L S w := by
  obtain ⟨p, l, e, R, s, m, args, below, meth, c, cells, slots, Qf, A, dC, dI, cA, ad, adV⟩ := X
  obtain ⟨hx, hb, hml, hown, hts, hK, hA, hlk, hfr, hlo, hce, hsl, hSt, hI, hAk⟩ := hX
  intro H locs ls hP hS hl
  exact lv_iload hx hb hd (hl.2.2 i _ hL) (k H locs ls hP hS hl)
theorem V_lload_n (hX : bOk cc nL own d X) {j : Fin 4} {i : Nat} {x : Int64} (hd : decode cc pc = .ok (.lload_n j, 1)) (hi : (j : Nat) = i) (hL : L[i]? = some (some (.long x)))
    (k : bV X (pc + 1) L (.long x :: S) w) : bV X pc L S w := by
  obtain ⟨p, l, e, R, s, m, args, below, meth, c, cells, slots, Qf, A, dC, dI, cA, ad, adV⟩ := X
  obtain ⟨hx, hb, hml, hown, hts, hK, hA, hlk, hfr, hlo, hce, hsl, hSt, hI, hAk⟩ := hX
  intro H locs ls hP hS hl
  exact lv_lload_n hx hb hd hi (hl.2.2 i _ hL) (k H locs ls hP hS hl)
theorem V_lload (hX : bOk cc nL own d X) {i : Nat} {x : Int64} (hd : decode cc pc = .ok (.lload i, 2)) (hL : L[i]? = some (some (.long x)))
    (k : bV X (pc + 2) L (.long x :: S) w) : bV X pc L S w := by
  obtain ⟨p, l, e, R, s, m, args, below, meth, c, cells, slots, Qf, A, dC, dI, cA, ad, adV⟩ := X
  obtain ⟨hx, hb, hml, hown, hts, hK, hA, hlk, hfr, hlo, hce, hsl, hSt, hI, hAk⟩ := hX
  intro H locs ls hP hS hl
  exact lv_lload hx hb hd (hl.2.2 i _ hL) (k H locs ls hP hS hl)
theorem V_aload_n (hX : bOk cc nL own d X) {j : Fin 4} {i : Nat} {x : Nat} (hd : decode cc pc = .ok (.aload_n j, 1)) (hi : (j : Nat) = i) (hL : L[i]? = some (some (.ref x)))
    (k : bV X (pc + 1) L (.ref x :: S) w) : bV X pc L S w := by
  obtain ⟨p, l, e, R, s, m, args, below, meth, c, cells, slots, Qf, A, dC, dI, cA, ad, adV⟩ := X
  obtain ⟨hx, hb, hml, hown, hts, hK, hA, hlk, hfr, hlo, hce, hsl, hSt, hI, hAk⟩ := hX
  intro H locs ls hP hS hl
  exact lv_aload_n hx hb hd hi (hl.2.2 i _ hL) (k H locs ls hP hS hl)
theorem V_aload (hX : bOk cc nL own d X) {i : Nat} {x : Nat} (hd : decode cc pc = .ok (.aload i, 2)) (hL : L[i]? = some (some (.ref x)))
    (k : bV X (pc + 2) L (.ref x :: S) w) : bV X pc L S w := by
  obtain ⟨p, l, e, R, s, m, args, below, meth, c, cells, slots, Qf, A, dC, dI, cA, ad, adV⟩ := X
  obtain ⟨hx, hb, hml, hown, hts, hK, hA, hlk, hfr, hlo, hce, hsl, hSt, hI, hAk⟩ := hX
  intro H locs ls hP hS hl
  exact lv_aload hx hb hd (hl.2.2 i _ hL) (k H locs ls hP hS hl)
theorem V_istore_n (hX : bOk cc nL own d X) {j : Fin 4} {i : Nat} {x : Int32} (hd : decode cc pc = .ok (.istore_n j, 1)) (hi : (j : Nat) = i) (hn : i < nL) (ho : noL L i = true)
    (k : bV X (pc + 1) (L.set i (some (.int x))) S w) : bV X pc L (.int x :: S) w := by
  obtain ⟨p, l, e, R, s, m, args, below, meth, c, cells, slots, Qf, A, dC, dI, cA, ad, adV⟩ := X
  obtain ⟨hx, hb, hml, hown, hts, hK, hA, hlk, hfr, hlo, hce, hsl, hSt, hI, hAk⟩ := hX
  intro H locs ls hP hS hl
  exact lv_istore_n hx hb hd hi hl.kit (by rw [hml]; exact hn) rfl (fun ls2 hl2 => k H locs ls2 hP hS (LH.set (v := Value.int x) ho hl2))
theorem V_istore (hX : bOk cc nL own d X) {i : Nat} {x : Int32} (hd : decode cc pc = .ok (.istore i, 2)) (hn : i < nL) (ho : noL L i = true)
    (k : bV X (pc + 2) (L.set i (some (.int x))) S w) : bV X pc L (.int x :: S) w := by
  obtain ⟨p, l, e, R, s, m, args, below, meth, c, cells, slots, Qf, A, dC, dI, cA, ad, adV⟩ := X
  obtain ⟨hx, hb, hml, hown, hts, hK, hA, hlk, hfr, hlo, hce, hsl, hSt, hI, hAk⟩ := hX
  intro H locs ls hP hS hl
  exact lv_istore hx hb hd hl.kit (by rw [hml]; exact hn) rfl (fun ls2 hl2 => k H locs ls2 hP hS (LH.set (v := Value.int x) ho hl2))
theorem V_astore_n (hX : bOk cc nL own d X) {j : Fin 4} {i : Nat} {x : Nat} (hd : decode cc pc = .ok (.astore_n j, 1)) (hi : (j : Nat) = i) (hn : i < nL) (ho : noL L i = true)
    (k : bV X (pc + 1) (L.set i (some (.ref x))) S w) : bV X pc L (.ref x :: S) w := by
  obtain ⟨p, l, e, R, s, m, args, below, meth, c, cells, slots, Qf, A, dC, dI, cA, ad, adV⟩ := X
  obtain ⟨hx, hb, hml, hown, hts, hK, hA, hlk, hfr, hlo, hce, hsl, hSt, hI, hAk⟩ := hX
  intro H locs ls hP hS hl
  exact lv_astore_n hx hb hd hi hl.kit (by rw [hml]; exact hn) rfl (fun ls2 hl2 => k H locs ls2 hP hS (LH.set (v := Value.ref x) ho hl2))
theorem V_astore (hX : bOk cc nL own d X) {i : Nat} {x : Nat} (hd : decode cc pc = .ok (.astore i, 2)) (hn : i < nL) (ho : noL L i = true)
    (k : bV X (pc + 2) (L.set i (some (.ref x))) S w) : bV X pc L (.ref x :: S) w := by
  obtain ⟨p, l, e, R, s, m, args, below, meth, c, cells, slots, Qf, A, dC, dI, cA, ad, adV⟩ := X
  obtain ⟨hx, hb, hml, hown, hts, hK, hA, hlk, hfr, hlo, hce, hsl, hSt, hI, hAk⟩ := hX
  intro H locs ls hP hS hl
  exact lv_astore hx hb hd hl.kit (by rw [hml]; exact hn) rfl (fun ls2 hl2 => k H locs ls2 hP hS (LH.set (v := Value.ref x) ho hl2))
theorem V_iinc (hX : bOk cc nL own d X) {i : Nat} {n : Int} {x v : Int32} (hd : decode cc pc = .ok (.iinc i n, 3)) (hL : L[i]? = some (some (.int x))) (hv : x + Int32.ofInt n = v) (hn : i < nL) (ho : noL L i = true)
    (k : bV X (pc + 3) (L.set i (some (.int v))) S w) : bV X pc L S w := by
  obtain ⟨p, l, e, R, s, m, args, below, meth, c, cells, slots, Qf, A, dC, dI, cA, ad, adV⟩ := X
  obtain ⟨hx, hb, hml, hown, hts, hK, hA, hlk, hfr, hlo, hce, hsl, hSt, hI, hAk⟩ := hX
  intro H locs ls hP hS hl
  obtain ⟨q, hq⟩ := List.mem_iff_getElem?.mp (lsL_mem.mpr ⟨.int x, hL, rfl⟩ : (i, vm ad (.int x)) ∈ lsL ad L)
  exact lv_iinc hx hb hd hl.kit hq hv (by rw [hml]; exact hn) rfl (fun ls2 hl2 => k H locs ls2 hP hS (LH.set (v := .int v) ho hl2))
theorem V_iadd (hX : bOk cc nL own d X) {x y : Int32} (hd : decode cc pc = .ok (.iadd, 1))
    (k : bV X (pc + 1) L (.int (x + y) :: S) w) : bV X pc L (.int y :: .int x :: S) w := by
  obtain ⟨p, l, e, R, s, m, args, below, meth, c, cells, slots, Qf, A, dC, dI, cA, ad, adV⟩ := X
  obtain ⟨hx, hb, hml, hown, hts, hK, hA, hlk, hfr, hlo, hce, hsl, hSt, hI, hAk⟩ := hX
  intro H locs ls hP hS hl
  exact lv_iadd hx hb hd (k H locs ls hP hS hl)
theorem V_isub (hX : bOk cc nL own d X) {x y : Int32} (hd : decode cc pc = .ok (.isub, 1))
    (k : bV X (pc + 1) L (.int (x - y) :: S) w) : bV X pc L (.int y :: .int x :: S) w := by
  obtain ⟨p, l, e, R, s, m, args, below, meth, c, cells, slots, Qf, A, dC, dI, cA, ad, adV⟩ := X
  obtain ⟨hx, hb, hml, hown, hts, hK, hA, hlk, hfr, hlo, hce, hsl, hSt, hI, hAk⟩ := hX
  intro H locs ls hP hS hl
  exact lv_isub hx hb hd (k H locs ls hP hS hl)
theorem V_imul (hX : bOk cc nL own d X) {x y : Int32} (hd : decode cc pc = .ok (.imul, 1))
    (k : bV X (pc + 1) L (.int (x * y) :: S) w) : bV X pc L (.int y :: .int x :: S) w := by
  obtain ⟨p, l, e, R, s, m, args, below, meth, c, cells, slots, Qf, A, dC, dI, cA, ad, adV⟩ := X
  obtain ⟨hx, hb, hml, hown, hts, hK, hA, hlk, hfr, hlo, hce, hsl, hSt, hI, hAk⟩ := hX
  intro H locs ls hP hS hl
  exact lv_imul hx hb hd (k H locs ls hP hS hl)
theorem V_iand (hX : bOk cc nL own d X) {x y : Int32} (hd : decode cc pc = .ok (.iand, 1))
    (k : bV X (pc + 1) L (.int (x &&& y) :: S) w) : bV X pc L (.int y :: .int x :: S) w := by
  obtain ⟨p, l, e, R, s, m, args, below, meth, c, cells, slots, Qf, A, dC, dI, cA, ad, adV⟩ := X
  obtain ⟨hx, hb, hml, hown, hts, hK, hA, hlk, hfr, hlo, hce, hsl, hSt, hI, hAk⟩ := hX
  intro H locs ls hP hS hl
  exact lv_iand hx hb hd (k H locs ls hP hS hl)
theorem V_ior (hX : bOk cc nL own d X) {x y : Int32} (hd : decode cc pc = .ok (.ior, 1))
    (k : bV X (pc + 1) L (.int (x ||| y) :: S) w) : bV X pc L (.int y :: .int x :: S) w := by
  obtain ⟨p, l, e, R, s, m, args, below, meth, c, cells, slots, Qf, A, dC, dI, cA, ad, adV⟩ := X
  obtain ⟨hx, hb, hml, hown, hts, hK, hA, hlk, hfr, hlo, hce, hsl, hSt, hI, hAk⟩ := hX
  intro H locs ls hP hS hl
  exact lv_ior hx hb hd (k H locs ls hP hS hl)
theorem V_ixor (hX : bOk cc nL own d X) {x y : Int32} (hd : decode cc pc = .ok (.ixor, 1))
    (k : bV X (pc + 1) L (.int (x ^^^ y) :: S) w) : bV X pc L (.int y :: .int x :: S) w := by
  obtain ⟨p, l, e, R, s, m, args, below, meth, c, cells, slots, Qf, A, dC, dI, cA, ad, adV⟩ := X
  obtain ⟨hx, hb, hml, hown, hts, hK, hA, hlk, hfr, hlo, hce, hsl, hSt, hI, hAk⟩ := hX
  intro H locs ls hP hS hl
  exact lv_ixor hx hb hd (k H locs ls hP hS hl)
theorem V_ishl (hX : bOk cc nL own d X) {x y : Int32} (hd : decode cc pc = .ok (.ishl, 1))
    (k : bV X (pc + 1) L (.int (x <<< (y &&& 31)) :: S) w) : bV X pc L (.int y :: .int x :: S) w := by
  obtain ⟨p, l, e, R, s, m, args, below, meth, c, cells, slots, Qf, A, dC, dI, cA, ad, adV⟩ := X
  obtain ⟨hx, hb, hml, hown, hts, hK, hA, hlk, hfr, hlo, hce, hsl, hSt, hI, hAk⟩ := hX
  intro H locs ls hP hS hl
  exact lv_ishl hx hb hd (k H locs ls hP hS hl)
theorem V_ishr (hX : bOk cc nL own d X) {x y : Int32} (hd : decode cc pc = .ok (.ishr, 1))
    (k : bV X (pc + 1) L (.int (x >>> (y &&& 31)) :: S) w) : bV X pc L (.int y :: .int x :: S) w := by
  obtain ⟨p, l, e, R, s, m, args, below, meth, c, cells, slots, Qf, A, dC, dI, cA, ad, adV⟩ := X
  obtain ⟨hx, hb, hml, hown, hts, hK, hA, hlk, hfr, hlo, hce, hsl, hSt, hI, hAk⟩ := hX
  intro H locs ls hP hS hl
  exact lv_ishr hx hb hd (k H locs ls hP hS hl)
theorem V_idiv (hX : bOk cc nL own d X) {x y : Int32} (hd : decode cc pc = .ok (.idiv, 1)) (hne : ¬ y = 0)
    (k : bV X (pc + 1) L (.int (x / y) :: S) w) : bV X pc L (.int y :: .int x :: S) w := by
  obtain ⟨p, l, e, R, s, m, args, below, meth, c, cells, slots, Qf, A, dC, dI, cA, ad, adV⟩ := X
  obtain ⟨hx, hb, hml, hown, hts, hK, hA, hlk, hfr, hlo, hce, hsl, hSt, hI, hAk⟩ := hX
  intro H locs ls hP hS hl
  exact lv_idiv hx hb hd hne (k H locs ls hP hS hl)
theorem V_irem (hX : bOk cc nL own d X) {x y : Int32} (hd : decode cc pc = .ok (.irem, 1)) (hne : ¬ y = 0)
    (k : bV X (pc + 1) L (.int (x - x / y * y) :: S) w) : bV X pc L (.int y :: .int x :: S) w := by
  obtain ⟨p, l, e, R, s, m, args, below, meth, c, cells, slots, Qf, A, dC, dI, cA, ad, adV⟩ := X
  obtain ⟨hx, hb, hml, hown, hts, hK, hA, hlk, hfr, hlo, hce, hsl, hSt, hI, hAk⟩ := hX
  intro H locs ls hP hS hl
  exact lv_irem hx hb hd hne (k H locs ls hP hS hl)
theorem V_iushr (hX : bOk cc nL own d X) {x y : Int32} (hd : decode cc pc = .ok (.iushr, 1))
    (k : bV X (pc + 1) L (.int (x.toUInt32 >>> (y.toUInt32 &&& Int32.toUInt32 31)).toInt32 :: S) w) : bV X pc L (.int y :: .int x :: S) w := by
  obtain ⟨p, l, e, R, s, m, args, below, meth, c, cells, slots, Qf, A, dC, dI, cA, ad, adV⟩ := X
  obtain ⟨hx, hb, hml, hown, hts, hK, hA, hlk, hfr, hlo, hce, hsl, hSt, hI, hAk⟩ := hX
  intro H locs ls hP hS hl
  exact lv_iushr hx hb hd rfl (k H locs ls hP hS hl)
theorem V_ineg (hX : bOk cc nL own d X) {x : Int32} (hd : decode cc pc = .ok (.ineg, 1))
    (k : bV X (pc + 1) L (.int (-x) :: S) w) : bV X pc L (.int x :: S) w := by
  obtain ⟨p, l, e, R, s, m, args, below, meth, c, cells, slots, Qf, A, dC, dI, cA, ad, adV⟩ := X
  obtain ⟨hx, hb, hml, hown, hts, hK, hA, hlk, hfr, hlo, hce, hsl, hSt, hI, hAk⟩ := hX
  intro H locs ls hP hS hl
  exact lv_ineg hx hb hd (k H locs ls hP hS hl)
theorem V_ladd (hX : bOk cc nL own d X) {x y : Int64} (hd : decode cc pc = .ok (.ladd, 1))
    (k : bV X (pc + 1) L (.long (x + y) :: S) w) : bV X pc L (.long y :: .long x :: S) w := by
  obtain ⟨p, l, e, R, s, m, args, below, meth, c, cells, slots, Qf, A, dC, dI, cA, ad, adV⟩ := X
  obtain ⟨hx, hb, hml, hown, hts, hK, hA, hlk, hfr, hlo, hce, hsl, hSt, hI, hAk⟩ := hX
  intro H locs ls hP hS hl
  exact lv_ladd hx hb hd (k H locs ls hP hS hl)
theorem V_lsub (hX : bOk cc nL own d X) {x y : Int64} (hd : decode cc pc = .ok (.lsub, 1))
    (k : bV X (pc + 1) L (.long (x - y) :: S) w) : bV X pc L (.long y :: .long x :: S) w := by
  obtain ⟨p, l, e, R, s, m, args, below, meth, c, cells, slots, Qf, A, dC, dI, cA, ad, adV⟩ := X
  obtain ⟨hx, hb, hml, hown, hts, hK, hA, hlk, hfr, hlo, hce, hsl, hSt, hI, hAk⟩ := hX
  intro H locs ls hP hS hl
  exact lv_lsub hx hb hd (k H locs ls hP hS hl)
theorem V_lmul (hX : bOk cc nL own d X) {x y : Int64} (hd : decode cc pc = .ok (.lmul, 1))
    (k : bV X (pc + 1) L (.long (x * y) :: S) w) : bV X pc L (.long y :: .long x :: S) w := by
  obtain ⟨p, l, e, R, s, m, args, below, meth, c, cells, slots, Qf, A, dC, dI, cA, ad, adV⟩ := X
  obtain ⟨hx, hb, hml, hown, hts, hK, hA, hlk, hfr, hlo, hce, hsl, hSt, hI, hAk⟩ := hX
  intro H locs ls hP hS hl
  exact lv_lmul hx hb hd (k H locs ls hP hS hl)
theorem V_land (hX : bOk cc nL own d X) {x y : Int64} (hd : decode cc pc = .ok (.land, 1))
    (k : bV X (pc + 1) L (.long (x &&& y) :: S) w) : bV X pc L (.long y :: .long x :: S) w := by
  obtain ⟨p, l, e, R, s, m, args, below, meth, c, cells, slots, Qf, A, dC, dI, cA, ad, adV⟩ := X
  obtain ⟨hx, hb, hml, hown, hts, hK, hA, hlk, hfr, hlo, hce, hsl, hSt, hI, hAk⟩ := hX
  intro H locs ls hP hS hl
  exact lv_land hx hb hd (k H locs ls hP hS hl)
theorem V_lor (hX : bOk cc nL own d X) {x y : Int64} (hd : decode cc pc = .ok (.lor, 1))
    (k : bV X (pc + 1) L (.long (x ||| y) :: S) w) : bV X pc L (.long y :: .long x :: S) w := by
  obtain ⟨p, l, e, R, s, m, args, below, meth, c, cells, slots, Qf, A, dC, dI, cA, ad, adV⟩ := X
  obtain ⟨hx, hb, hml, hown, hts, hK, hA, hlk, hfr, hlo, hce, hsl, hSt, hI, hAk⟩ := hX
  intro H locs ls hP hS hl
  exact lv_lor hx hb hd (k H locs ls hP hS hl)
theorem V_lshl (hX : bOk cc nL own d X) {x : Int64} {y : Int32} (hd : decode cc pc = .ok (.lshl, 1))
    (k : bV X (pc + 1) L (.long (x <<< (y.toInt64 &&& 63)) :: S) w) : bV X pc L (.int y :: .long x :: S) w := by
  obtain ⟨p, l, e, R, s, m, args, below, meth, c, cells, slots, Qf, A, dC, dI, cA, ad, adV⟩ := X
  obtain ⟨hx, hb, hml, hown, hts, hK, hA, hlk, hfr, hlo, hce, hsl, hSt, hI, hAk⟩ := hX
  intro H locs ls hP hS hl
  exact lv_lshl hx hb hd rfl (k H locs ls hP hS hl)
theorem V_lshr (hX : bOk cc nL own d X) {x : Int64} {y : Int32} (hd : decode cc pc = .ok (.lshr, 1))
    (k : bV X (pc + 1) L (.long (x >>> (y.toInt64 &&& 63)) :: S) w) : bV X pc L (.int y :: .long x :: S) w := by
  obtain ⟨p, l, e, R, s, m, args, below, meth, c, cells, slots, Qf, A, dC, dI, cA, ad, adV⟩ := X
  obtain ⟨hx, hb, hml, hown, hts, hK, hA, hlk, hfr, hlo, hce, hsl, hSt, hI, hAk⟩ := hX
  intro H locs ls hP hS hl
  exact lv_lshr hx hb hd rfl (k H locs ls hP hS hl)
theorem V_i2l (hX : bOk cc nL own d X) {x : Int32} (hd : decode cc pc = .ok (.i2l, 1))
    (k : bV X (pc + 1) L (.long x.toInt64 :: S) w) : bV X pc L (.int x :: S) w := by
  obtain ⟨p, l, e, R, s, m, args, below, meth, c, cells, slots, Qf, A, dC, dI, cA, ad, adV⟩ := X
  obtain ⟨hx, hb, hml, hown, hts, hK, hA, hlk, hfr, hlo, hce, hsl, hSt, hI, hAk⟩ := hX
  intro H locs ls hP hS hl
  exact lv_i2l hx hb hd rfl (k H locs ls hP hS hl)
theorem V_l2i (hX : bOk cc nL own d X) {x : Int64} (hd : decode cc pc = .ok (.l2i, 1))
    (k : bV X (pc + 1) L (.int x.toInt32 :: S) w) : bV X pc L (.long x :: S) w := by
  obtain ⟨p, l, e, R, s, m, args, below, meth, c, cells, slots, Qf, A, dC, dI, cA, ad, adV⟩ := X
  obtain ⟨hx, hb, hml, hown, hts, hK, hA, hlk, hfr, hlo, hce, hsl, hSt, hI, hAk⟩ := hX
  intro H locs ls hP hS hl
  exact lv_l2i hx hb hd rfl (k H locs ls hP hS hl)
theorem V_dup (hX : bOk cc nL own d X) {v : Value} (hd : decode cc pc = .ok (.dup, 1)) (hc : v.category = 1)
    (k : bV X (pc + 1) L (v :: v :: S) w) : bV X pc L (v :: S) w := by
  obtain ⟨p, l, e, R, s, m, args, below, meth, c, cells, slots, Qf, A, dC, dI, cA, ad, adV⟩ := X
  obtain ⟨hx, hb, hml, hown, hts, hK, hA, hlk, hfr, hlo, hce, hsl, hSt, hI, hAk⟩ := hX
  intro H locs ls hP hS hl
  exact lv_dup hx hb hd ((vm_cat ad v).trans hc) (k H locs ls hP hS hl)
theorem V_dup2 (hX : bOk cc nL own d X) {u v : Value} (hd : decode cc pc = .ok (.dup2, 1)) (hu : u.category = 1) (hc : v.category = 1)
    (k : bV X (pc + 1) L (u :: v :: u :: v :: S) w) : bV X pc L (u :: v :: S) w := by
  obtain ⟨p, l, e, R, s, m, args, below, meth, c, cells, slots, Qf, A, dC, dI, cA, ad, adV⟩ := X
  obtain ⟨hx, hb, hml, hown, hts, hK, hA, hlk, hfr, hlo, hce, hsl, hSt, hI, hAk⟩ := hX
  intro H locs ls hP hS hl
  exact lv_dup2_11 hx hb hd ((vm_cat ad u).trans hu) ((vm_cat ad v).trans hc) (k H locs ls hP hS hl)
theorem V_if_eq (hX : bOk cc nL own d X) {x : Int32} {off : Int} {tgt : Nat} (hd : decode cc pc = .ok (.ifCond .eq off, 3)) (ht : (pc : Int) + off = (tgt : Int))
    (kt : x = 0 → bV X tgt L S w) (kf : ¬ x = 0 → bV X (pc + 3) L S w) : bV X pc L (.int x :: S) w := by
  obtain ⟨p, l, e, R, s, m, args, below, meth, c, cells, slots, Qf, A, dC, dI, cA, ad, adV⟩ := X
  obtain ⟨hx, hb, hml, hown, hts, hK, hA, hlk, hfr, hlo, hce, hsl, hSt, hI, hAk⟩ := hX
  intro H locs ls hP hS hl
  exact lv_if_eq hx hb hd ht (fun h => kt h H locs ls hP hS hl) (fun h => kf h H locs ls hP hS hl)
theorem V_icmp_eq (hX : bOk cc nL own d X) {x y : Int32} {off : Int} {tgt : Nat} (hd : decode cc pc = .ok (.if_icmp .eq off, 3)) (ht : (pc : Int) + off = (tgt : Int))
    (kt : x = y → bV X tgt L S w) (kf : ¬ x = y → bV X (pc + 3) L S w) : bV X pc L (.int y :: .int x :: S) w := by
  obtain ⟨p, l, e, R, s, m, args, below, meth, c, cells, slots, Qf, A, dC, dI, cA, ad, adV⟩ := X
  obtain ⟨hx, hb, hml, hown, hts, hK, hA, hlk, hfr, hlo, hce, hsl, hSt, hI, hAk⟩ := hX
  intro H locs ls hP hS hl
  exact lv_icmp_eq hx hb hd ht (fun h => kt h H locs ls hP hS hl) (fun h => kf h H locs ls hP hS hl)
theorem V_if_ne (hX : bOk cc nL own d X) {x : Int32} {off : Int} {tgt : Nat} (hd : decode cc pc = .ok (.ifCond .ne off, 3)) (ht : (pc : Int) + off = (tgt : Int))
    (kt : ¬ x = 0 → bV X tgt L S w) (kf : x = 0 → bV X (pc + 3) L S w) : bV X pc L (.int x :: S) w := by
  obtain ⟨p, l, e, R, s, m, args, below, meth, c, cells, slots, Qf, A, dC, dI, cA, ad, adV⟩ := X
  obtain ⟨hx, hb, hml, hown, hts, hK, hA, hlk, hfr, hlo, hce, hsl, hSt, hI, hAk⟩ := hX
  intro H locs ls hP hS hl
  exact lv_if_ne hx hb hd ht (fun h => kt h H locs ls hP hS hl) (fun h => kf h H locs ls hP hS hl)
theorem V_icmp_ne (hX : bOk cc nL own d X) {x y : Int32} {off : Int} {tgt : Nat} (hd : decode cc pc = .ok (.if_icmp .ne off, 3)) (ht : (pc : Int) + off = (tgt : Int))
    (kt : ¬ x = y → bV X tgt L S w) (kf : x = y → bV X (pc + 3) L S w) : bV X pc L (.int y :: .int x :: S) w := by
  obtain ⟨p, l, e, R, s, m, args, below, meth, c, cells, slots, Qf, A, dC, dI, cA, ad, adV⟩ := X
  obtain ⟨hx, hb, hml, hown, hts, hK, hA, hlk, hfr, hlo, hce, hsl, hSt, hI, hAk⟩ := hX
  intro H locs ls hP hS hl
  exact lv_icmp_ne hx hb hd ht (fun h => kt h H locs ls hP hS hl) (fun h => kf h H locs ls hP hS hl)
theorem V_if_lt (hX : bOk cc nL own d X) {x : Int32} {off : Int} {tgt : Nat} (hd : decode cc pc = .ok (.ifCond .lt off, 3)) (ht : (pc : Int) + off = (tgt : Int))
    (kt : x < 0 → bV X tgt L S w) (kf : ¬ x < 0 → bV X (pc + 3) L S w) : bV X pc L (.int x :: S) w := by
  obtain ⟨p, l, e, R, s, m, args, below, meth, c, cells, slots, Qf, A, dC, dI, cA, ad, adV⟩ := X
  obtain ⟨hx, hb, hml, hown, hts, hK, hA, hlk, hfr, hlo, hce, hsl, hSt, hI, hAk⟩ := hX
  intro H locs ls hP hS hl
  exact lv_if_lt hx hb hd ht (fun h => kt h H locs ls hP hS hl) (fun h => kf h H locs ls hP hS hl)
theorem V_icmp_lt (hX : bOk cc nL own d X) {x y : Int32} {off : Int} {tgt : Nat} (hd : decode cc pc = .ok (.if_icmp .lt off, 3)) (ht : (pc : Int) + off = (tgt : Int))
    (kt : x < y → bV X tgt L S w) (kf : ¬ x < y → bV X (pc + 3) L S w) : bV X pc L (.int y :: .int x :: S) w := by
  obtain ⟨p, l, e, R, s, m, args, below, meth, c, cells, slots, Qf, A, dC, dI, cA, ad, adV⟩ := X
  obtain ⟨hx, hb, hml, hown, hts, hK, hA, hlk, hfr, hlo, hce, hsl, hSt, hI, hAk⟩ := hX
  intro H locs ls hP hS hl
  exact lv_icmp_lt hx hb hd ht (fun h => kt h H locs ls hP hS hl) (fun h => kf h H locs ls hP hS hl)
theorem V_if_ge (hX : bOk cc nL own d X) {x : Int32} {off : Int} {tgt : Nat} (hd : decode cc pc = .ok (.ifCond .ge off, 3)) (ht : (pc : Int) + off = (tgt : Int))
    (kt : 0 ≤ x → bV X tgt L S w) (kf : ¬ 0 ≤ x → bV X (pc + 3) L S w) : bV X pc L (.int x :: S) w := by
  obtain ⟨p, l, e, R, s, m, args, below, meth, c, cells, slots, Qf, A, dC, dI, cA, ad, adV⟩ := X
  obtain ⟨hx, hb, hml, hown, hts, hK, hA, hlk, hfr, hlo, hce, hsl, hSt, hI, hAk⟩ := hX
  intro H locs ls hP hS hl
  exact lv_if_ge hx hb hd ht (fun h => kt h H locs ls hP hS hl) (fun h => kf h H locs ls hP hS hl)
theorem V_icmp_ge (hX : bOk cc nL own d X) {x y : Int32} {off : Int} {tgt : Nat} (hd : decode cc pc = .ok (.if_icmp .ge off, 3)) (ht : (pc : Int) + off = (tgt : Int))
    (kt : y ≤ x → bV X tgt L S w) (kf : ¬ y ≤ x → bV X (pc + 3) L S w) : bV X pc L (.int y :: .int x :: S) w := by
  obtain ⟨p, l, e, R, s, m, args, below, meth, c, cells, slots, Qf, A, dC, dI, cA, ad, adV⟩ := X
  obtain ⟨hx, hb, hml, hown, hts, hK, hA, hlk, hfr, hlo, hce, hsl, hSt, hI, hAk⟩ := hX
  intro H locs ls hP hS hl
  exact lv_icmp_ge hx hb hd ht (fun h => kt h H locs ls hP hS hl) (fun h => kf h H locs ls hP hS hl)
theorem V_if_gt (hX : bOk cc nL own d X) {x : Int32} {off : Int} {tgt : Nat} (hd : decode cc pc = .ok (.ifCond .gt off, 3)) (ht : (pc : Int) + off = (tgt : Int))
    (kt : 0 < x → bV X tgt L S w) (kf : ¬ 0 < x → bV X (pc + 3) L S w) : bV X pc L (.int x :: S) w := by
  obtain ⟨p, l, e, R, s, m, args, below, meth, c, cells, slots, Qf, A, dC, dI, cA, ad, adV⟩ := X
  obtain ⟨hx, hb, hml, hown, hts, hK, hA, hlk, hfr, hlo, hce, hsl, hSt, hI, hAk⟩ := hX
  intro H locs ls hP hS hl
  exact lv_if_gt hx hb hd ht (fun h => kt h H locs ls hP hS hl) (fun h => kf h H locs ls hP hS hl)
theorem V_icmp_gt (hX : bOk cc nL own d X) {x y : Int32} {off : Int} {tgt : Nat} (hd : decode cc pc = .ok (.if_icmp .gt off, 3)) (ht : (pc : Int) + off = (tgt : Int))
    (kt : y < x → bV X tgt L S w) (kf : ¬ y < x → bV X (pc + 3) L S w) : bV X pc L (.int y :: .int x :: S) w := by
  obtain ⟨p, l, e, R, s, m, args, below, meth, c, cells, slots, Qf, A, dC, dI, cA, ad, adV⟩ := X
  obtain ⟨hx, hb, hml, hown, hts, hK, hA, hlk, hfr, hlo, hce, hsl, hSt, hI, hAk⟩ := hX
  intro H locs ls hP hS hl
  exact lv_icmp_gt hx hb hd ht (fun h => kt h H locs ls hP hS hl) (fun h => kf h H locs ls hP hS hl)
theorem V_if_le (hX : bOk cc nL own d X) {x : Int32} {off : Int} {tgt : Nat} (hd : decode cc pc = .ok (.ifCond .le off, 3)) (ht : (pc : Int) + off = (tgt : Int))
    (kt : x ≤ 0 → bV X tgt L S w) (kf : ¬ x ≤ 0 → bV X (pc + 3) L S w) : bV X pc L (.int x :: S) w := by
  obtain ⟨p, l, e, R, s, m, args, below, meth, c, cells, slots, Qf, A, dC, dI, cA, ad, adV⟩ := X
  obtain ⟨hx, hb, hml, hown, hts, hK, hA, hlk, hfr, hlo, hce, hsl, hSt, hI, hAk⟩ := hX
  intro H locs ls hP hS hl
  exact lv_if_le hx hb hd ht (fun h => kt h H locs ls hP hS hl) (fun h => kf h H locs ls hP hS hl)
theorem V_icmp_le (hX : bOk cc nL own d X) {x y : Int32} {off : Int} {tgt : Nat} (hd : decode cc pc = .ok (.if_icmp .le off, 3)) (ht : (pc : Int) + off = (tgt : Int))
    (kt : x ≤ y → bV X tgt L S w) (kf : ¬ x ≤ y → bV X (pc + 3) L S w) : bV X pc L (.int y :: .int x :: S) w := by
  obtain ⟨p, l, e, R, s, m, args, below, meth, c, cells, slots, Qf, A, dC, dI, cA, ad, adV⟩ := X
  obtain ⟨hx, hb, hml, hown, hts, hK, hA, hlk, hfr, hlo, hce, hsl, hSt, hI, hAk⟩ := hX
  intro H locs ls hP hS hl
  exact lv_icmp_le hx hb hd ht (fun h => kt h H locs ls hP hS hl) (fun h => kf h H locs ls hP hS hl)
theorem V_goto (hX : bOk cc nL own d X) {off : Int} {tgt : Nat} (hd : decode cc pc = .ok (.goto off, 3)) (ht : (pc : Int) + off = (tgt : Int))
    (k : bV X tgt L S w) : bV X pc L S w := by
  obtain ⟨p, l, e, R, s, m, args, below, meth, c, cells, slots, Qf, A, dC, dI, cA, ad, adV⟩ := X
  obtain ⟨hx, hb, hml, hown, hts, hK, hA, hlk, hfr, hlo, hce, hsl, hSt, hI, hAk⟩ := hX
  intro H locs ls hP hS hl
  exact lv_goto hx hb hd ht (k H locs ls hP hS hl)
theorem V_tableOut (hX : bOk cc nL own d X) {dflt lo hi : Int} {offs : Array Int} {len : Nat} {x : Int32} {tgt : Nat} (hd : decode cc pc = .ok (.tableswitch dflt lo hi offs, len)) (h : x.toInt < lo ∨ hi < x.toInt) (ht : (pc : Int) + dflt = (tgt : Int))
    (k : bV X tgt L S w) : bV X pc L (.int x :: S) w := by
  obtain ⟨p, l, e, R, s, m, args, below, meth, c, cells, slots, Qf, A, dC, dI, cA, ad, adV⟩ := X
  obtain ⟨hx, hb, hml, hown, hts, hK, hA, hlk, hfr, hlo, hce, hsl, hSt, hI, hAk⟩ := hX
  intro H locs ls hP hS hl
  exact lv_tableOut hx hb hd h ht (k H locs ls hP hS hl)
theorem V_tableIn (hX : bOk cc nL own d X) {dflt lo hi : Int} {offs : Array Int} {len : Nat} {x : Int32} {off : Int} {tgt : Nat} (hd : decode cc pc = .ok (.tableswitch dflt lo hi offs, len)) (h1 : ¬ x.toInt < lo) (h2 : ¬ hi < x.toInt) (ho : offs[(x.toInt - lo).toNat]? = some off) (ht : (pc : Int) + off = (tgt : Int))
    (k : bV X tgt L S w) : bV X pc L (.int x :: S) w := by
  obtain ⟨p, l, e, R, s, m, args, below, meth, c, cells, slots, Qf, A, dC, dI, cA, ad, adV⟩ := X
  obtain ⟨hx, hb, hml, hown, hts, hK, hA, hlk, hfr, hlo, hce, hsl, hSt, hI, hAk⟩ := hX
  intro H locs ls hP hS hl
  exact lv_tableIn hx hb hd h1 h2 ho ht (k H locs ls hP hS hl)
theorem V_lcmp (hX : bOk cc nL own d X) {x y : Int64} (hd : decode cc pc = .ok (.lcmp, 1))
    (k : bV X (pc + 1) L (.int (lg_cmp x y) :: S) w) : bV X pc L (.long y :: .long x :: S) w := by
  obtain ⟨p, l, e, R, s, m, args, below, meth, c, cells, slots, Qf, A, dC, dI, cA, ad, adV⟩ := X
  obtain ⟨hx, hb, hml, hown, hts, hK, hA, hlk, hfr, hlo, hce, hsl, hSt, hI, hAk⟩ := hX
  intro H locs ls hP hS hl
  exact W.lcmp hx hb hd (k H locs ls hP hS hl)
/-- a class's fields as the tables have them; the words of its fields are among the good ones -/
def clOk (ci : Nat) : Bool := match vwCl[ci]? with
  | some (C, T, N) => (u_ws C T N).all inGd
  | none => false
/-- pool place i of class own is field j of class ci -/
def flOk (own : String) (i ci j : Nat) : Bool := match vwCl[ci]? with
  | some (_, T, N) => decide (j < N) && (inGd (.fieldLink own i (T j).1 (T j).2.1 (T j).2.2.1) || inNe (.fieldLinkNest own i (T j).1 (T j).2.1 (T j).2.2.1 "BentFurrows"))
  | none => false
theorem clOk_mem {ci N : Nat} {C : String} {T : u_T} (h : clOk ci = true) (hc : vwCl[ci]? = some (C, T, N)) : ∀ w ∈ u_ws C T N, w ∈ lw_gd := by
  unfold clOk at h
  rw [hc] at h
  exact fun w hw => inGd_mem (List.all_eq_true.mp h w hw)
theorem slots_at {ad : Nat → Nat} {w : Wd} {k j sl : Nat} {fs : List Nat} (hj : fs[j]? = some sl) : ((List.range fs.length).map (fun j => vm ad (slV w k j (fs.getD j 0))))[j]? = some (vm ad (slV w k j sl)) := by
  have hjl : j < fs.length := (List.getElem?_eq_some_iff.mp hj).1
  simp [hjl]
  have := (List.getElem?_eq_some_iff.mp hj).2
  simp [this]
theorem cellE_obj {cA : ClassId} {ad : Nat → Nat} {w : Wd} {k ci : Nat} {fs : List Nat} (hl : lay k = .inr (ci, fs)) : cellE cA ad w k = .inr (ci, (List.range fs.length).map (fun j => vm ad (slV w k j (fs.getD j 0)))) := by
  unfold cellE; rw [hl]
theorem cellE_arr {cA : ClassId} {ad : Nat → Nat} {w : Wd} {k n : Nat} (hl : lay k = .inl n) : cellE cA ad w k = .inl (cA, n, .inl (w.1 k)) := by
  unfold cellE; rw [hl]
theorem V_getf (hX : bOk cc nL own d X) {k ci j i sl : Nat} {fs : List Nat} {v : Value} (hf : flOk own i ci j = true) (hcl : clOk ci = true) (hk : k < 57) (hy : lay k = .inr (ci, fs)) (hj : fs[j]? = some sl) (hv : slV w k j sl = v) (hd : decode cc pc = .ok (.getfield i, 3))
    (k_1 : bV X (pc + 3) L (v :: S) w) : bV X pc L (.ref k :: S) w := by
  obtain ⟨p, l, e, R, s, m, args, below, meth, c, cells, slots, Qf, A, dC, dI, cA, ad, adV⟩ := X
  obtain ⟨hx, hb, hml, hown, hts, hK, hA, hlk, hfr, hlo, hce, hsl, hSt, hI, hAk⟩ := hX
  intro H locs ls hP hS hl
  subst hv
  unfold flOk at hf
  cases hc : vwCl[ci]? with
  | none => rw [hc] at hf; cases hf
  | some q =>
    obtain ⟨C, T, N⟩ := q
    rw [hc] at hf
    simp only [Bool.and_eq_true, decide_eq_true_eq, Bool.or_eq_true] at hf
    have he := (wsOf_at (cA := cA) (ad := ad) (w := w) hk).trans (by rw [cellE_obj hy])
    rcases hf.2 with h | h
    · exact va_get hx hb hts (clOk_mem hcl hc) hown hK hP k he hc j hf.1 (hts _ (inGd_mem h)) (fun _ z => z) (slots_at hj) hd (k_1 H locs ls hP hS hl)
    · exact va_getN (host := "BentFurrows") hx hb hts (clOk_mem hcl hc) hown hK hP k he hc j hf.1 (va_Nw.use rfl (hSt.2.2.2.2.2.2.2 _ (inNe_mem h))) (fun _ z => z) (slots_at hj) hd (k_1 H locs ls hP hS hl)
/-- a class's fields have types and names of their own; field j isn't final, of type ty -/
def ptOk (ci j : Nat) (ty : FieldType) : Bool := match vwCl[ci]? with
  | some (_, T, N) => ((List.range N).all (fun a => (parseFieldDescriptor (T a).2.2.1).isSome) && (List.range N).all (fun a => (List.range N).all (fun b => a == b || (T a).2.1 != (T b).2.1))) && ((T j).2.2.2 == false && decide (parseFieldDescriptor (T j).2.2.1 = some ty))
  | none => false
theorem ptT {T : u_T} {N a : Nat} (h : (List.range N).all (fun a => (parseFieldDescriptor (T a).2.2.1).isSome) = true) (ha : a < N) : parseFieldDescriptor (T a).2.2.1 = some ((parseFieldDescriptor (T a).2.2.1).getD .int) := by
  have h1 := List.all_eq_true.mp h a (List.mem_range.mpr ha)
  cases hq : parseFieldDescriptor (T a).2.2.1 with
  | none => rw [hq] at h1; cases h1
  | some t => rfl
theorem ptN {T : u_T} {N a b : Nat} (h : (List.range N).all (fun a => (List.range N).all (fun b => a == b || (T a).2.1 != (T b).2.1)) = true) (ha : a < N) (hb : b < N) (hab : a ≠ b) : (T a).2.1 ≠ (T b).2.1 := by
  have h1 := List.all_eq_true.mp (List.all_eq_true.mp h a (List.mem_range.mpr ha)) b (List.mem_range.mpr hb)
  simpa [hab] using h1
theorem V_putf (hX : bOk cc nL own d X) {k ci j i : Nat} {fs : List Nat} {x : Int32} (hf : flOk own i ci j = true) (hcl : clOk ci = true) (hp : ptOk ci j .int = true) (hk : k < 57) (hy : lay k = .inr (ci, fs)) (hj : fs[j]? = some 0) (hd : decode cc pc = .ok (.putfield i, 3))
    (k_1 : bV X (pc + 3) L S (wA w k (upd (w.1 k) j x))) : bV X pc L (.int x :: .ref k :: S) w := by
  obtain ⟨p, l, e, R, s, m, args, below, meth, c, cells, slots, Qf, A, dC, dI, cA, ad, adV⟩ := X
  obtain ⟨hx, hb, hml, hown, hts, hK, hA, hlk, hfr, hlo, hce, hsl, hSt, hI, hAk⟩ := hX
  intro H locs ls hP hS hl
  unfold flOk at hf
  cases hc : vwCl[ci]? with
  | none => rw [hc] at hf; cases hf
  | some q =>
    obtain ⟨C, T, N⟩ := q
    rw [hc] at hf
    simp only [Bool.and_eq_true, decide_eq_true_eq, Bool.or_eq_true] at hf
    have he := (wsOf_at (cA := cA) (ad := ad) (w := w) hk).trans (by rw [cellE_obj hy])
    have hjl : j < ((List.range fs.length).map (fun j => vm ad (slV w k j (fs.getD j 0)))).length := by simpa using (List.getElem?_eq_some_iff.mp hj).1
    unfold ptOk at hp
    rw [hc] at hp
    simp only [Bool.and_eq_true, decide_eq_true_eq, beq_iff_eq] at hp
    rcases hf.2 with h | h
    · refine va_put (ty := .int) (v := .int x) hx hb hts (clOk_mem hcl hc) (fun j => (parseFieldDescriptor (T j).2.2.1).getD .int) (fun a ha => ptT hp.1.1 ha) (fun a ha b hb hab => ptN hp.1.2 ha hb hab) hown hK hP (wsOf_D hI hAk) hS k he hc j hf.1 (hts _ (inGd_mem h)) (fun _ z => z) hp.2.1 hp.2.2 rfl rfl hjl hd (fun H1 locs1 hP1 _ hS1 => ?_)
      rw [wsOf_fld hk hy hj] at hP1
      exact k_1 H1 locs1 ls hP1 hS1 hl
    · refine va_putN (host := "BentFurrows") (ty := .int) (v := .int x) hx hb hts (clOk_mem hcl hc) (fun j => (parseFieldDescriptor (T j).2.2.1).getD .int) (fun a ha => ptT hp.1.1 ha) (fun a ha b hb hab => ptN hp.1.2 ha hb hab) hown hK hP (wsOf_D hI hAk) hS k he hc j hf.1 (va_Nw.use rfl (hSt.2.2.2.2.2.2.2 _ (inNe_mem h))) (fun _ z => z) hp.2.1 hp.2.2 rfl rfl hjl hd (fun H1 locs1 hP1 _ hS1 => ?_)
      rw [wsOf_fld hk hy hj] at hP1
      exact k_1 H1 locs1 ls hP1 hS1 hl
theorem V_putl (hX : bOk cc nL own d X) {ci j i : Nat} {fs : List Nat} {x : Int64} (hf : flOk own i ci j = true) (hcl : clOk ci = true) (hp : ptOk ci j .long = true) (hy : lay 33 = .inr (ci, fs)) (hj : fs[j]? = some 1) (h1 : ∀ i, i ≠ j → fs.getD i 0 ≠ 1) (hd : decode cc pc = .ok (.putfield i, 3))
    (k_1 : bV X (pc + 3) L S (w.1, x)) : bV X pc L (.long x :: .ref 33 :: S) w := by
  obtain ⟨p, l, e, R, s, m, args, below, meth, c, cells, slots, Qf, A, dC, dI, cA, ad, adV⟩ := X
  obtain ⟨hx, hb, hml, hown, hts, hK, hA, hlk, hfr, hlo, hce, hsl, hSt, hI, hAk⟩ := hX
  intro H locs ls hP hS hl
  have hk : 33 < 57 := by decide
  unfold flOk at hf
  cases hc : vwCl[ci]? with
  | none => rw [hc] at hf; cases hf
  | some q =>
    obtain ⟨C, T, N⟩ := q
    rw [hc] at hf
    simp only [Bool.and_eq_true, decide_eq_true_eq, Bool.or_eq_true] at hf
    have he := (wsOf_at (cA := cA) (ad := ad) (w := w) hk).trans (by rw [cellE_obj hy])
    have hjl : j < ((List.range fs.length).map (fun j => vm ad (slV w 33 j (fs.getD j 0)))).length := by simpa using (List.getElem?_eq_some_iff.mp hj).1
    unfold ptOk at hp
    rw [hc] at hp
    simp only [Bool.and_eq_true, decide_eq_true_eq, beq_iff_eq] at hp
    rcases hf.2 with h | h
    · refine va_put (ty := .long) (v := .long x) hx hb hts (clOk_mem hcl hc) (fun j => (parseFieldDescriptor (T j).2.2.1).getD .int) (fun a ha => ptT hp.1.1 ha) (fun a ha b hb hab => ptN hp.1.2 ha hb hab) hown hK hP (wsOf_D hI hAk) hS 33 he hc j hf.1 (hts _ (inGd_mem h)) (fun _ z => z) hp.2.1 hp.2.2 rfl rfl hjl hd (fun H1 locs1 hP1 _ hS1 => ?_)
      rw [wsOf_lng hy hj h1] at hP1
      exact k_1 H1 locs1 ls hP1 hS1 hl
    · refine va_putN (host := "BentFurrows") (ty := .long) (v := .long x) hx hb hts (clOk_mem hcl hc) (fun j => (parseFieldDescriptor (T j).2.2.1).getD .int) (fun a ha => ptT hp.1.1 ha) (fun a ha b hb hab => ptN hp.1.2 ha hb hab) hown hK hP (wsOf_D hI hAk) hS 33 he hc j hf.1 (va_Nw.use rfl (hSt.2.2.2.2.2.2.2 _ (inNe_mem h))) (fun _ z => z) hp.2.1 hp.2.2 rfl rfl hjl hd (fun H1 locs1 hP1 _ hS1 => ?_)
      rw [wsOf_lng hy hj h1] at hP1
      exact k_1 H1 locs1 ls hP1 hS1 hl
theorem V_iald (hX : bOk cc nL own d X) {k n : Nat} {i : Int32} (hk : k < 57) (hy : lay k = .inl n) (hi : vp_in i n) (hd : decode cc pc = .ok (.iaload, 1))
    (k_1 : bV X (pc + 1) L (.int (w.1 k i.toNatClampNeg) :: S) w) : bV X pc L (.int i :: .ref k :: S) w := by
  obtain ⟨p, l, e, R, s, m, args, below, meth, c, cells, slots, Qf, A, dC, dI, cA, ad, adV⟩ := X
  obtain ⟨hx, hb, hml, hown, hts, hK, hA, hlk, hfr, hlo, hce, hsl, hSt, hI, hAk⟩ := hX
  intro H locs ls hP hS hl
  exact va_iald hx hb hK hP k 0 ((wsOf_at (cA := cA) (ad := ad) (w := w) hk).trans (by rw [cellE_arr hy])) rfl hi hd (k_1 H locs ls hP hS hl)
theorem V_iast (hX : bOk cc nL own d X) {k n : Nat} {i x : Int32} (hk : k < 57) (hy : lay k = .inl n) (hi : vp_in i n) (hd : decode cc pc = .ok (.iastore, 1))
    (k_1 : bV X (pc + 1) L S (wA w k (upd (w.1 k) i.toNatClampNeg x))) : bV X pc L (.int x :: .int i :: .ref k :: S) w := by
  obtain ⟨p, l, e, R, s, m, args, below, meth, c, cells, slots, Qf, A, dC, dI, cA, ad, adV⟩ := X
  obtain ⟨hx, hb, hml, hown, hts, hK, hA, hlk, hfr, hlo, hce, hsl, hSt, hI, hAk⟩ := hX
  intro H locs ls hP hS hl
  refine va_iast hx hb hK hP (wsOf_D hI hAk) hS k 0 ((wsOf_at (cA := cA) (ad := ad) (w := w) hk).trans (by rw [cellE_arr hy])) rfl hi hd (fun H1 locs1 hP1 _ hS1 => ?_)
  rw [wsOf_arr hk hy] at hP1
  exact k_1 H1 locs1 ls hP1 hS1 hl
theorem V_alen (hX : bOk cc nL own d X) {k n : Nat} {v : Int32} (hk : k < 57) (hy : lay k = .inl n) (hv : Int32.ofNat n = v) (hd : decode cc pc = .ok (.arraylength, 1))
    (k_1 : bV X (pc + 1) L (.int v :: S) w) : bV X pc L (.ref k :: S) w := by
  obtain ⟨p, l, e, R, s, m, args, below, meth, c, cells, slots, Qf, A, dC, dI, cA, ad, adV⟩ := X
  obtain ⟨hx, hb, hml, hown, hts, hK, hA, hlk, hfr, hlo, hce, hsl, hSt, hI, hAk⟩ := hX
  intro H locs ls hP hS hl
  exact va_alen hx hb hK hP k 0 ((wsOf_at (cA := cA) (ad := ad) (w := w) hk).trans (by rw [cellE_arr hy])) rfl hv hd (k_1 H locs ls hP hS hl)
theorem V_mmax (hX : bOk cc nL own d X) {i : Nat} {x y : Int32} (hc : (inGd (.methodLink own i Lib.Math.max.name) && (inGd (.static Lib.Math.max.name) && (inGd (.initialized "java/lang/Math") && inGd (.code Lib.Math.max.name Lib.Math.max.code 2 (some .int))))) = true) (h1 : 1 ≤ d) (hr : (S.map fun v => v.category).sum ≤ 8) (hd : decode cc pc = .ok (.invokestatic i, 3))
    (k : bV X (pc + 3) L (.int (if x < y then y else x) :: S) w) : bV X pc L (.int y :: .int x :: S) w := by
  obtain ⟨p, l, e, R, s, m, args, below, meth, c, cells, slots, Qf, A, dC, dI, cA, ad, adV⟩ := X
  obtain ⟨hx, hb, hml, hown, hts, hK, hA, hlk, hfr, hlo, hce, hsl, hSt, hI, hAk⟩ := hX
  intro H locs ls hP hS hl
  simp only [Bool.and_eq_true] at hc
  have hr2 : ((S.map (vm ad)).map fun v => v.category).sum ≤ 8 := by
    have e : (S.map (vm ad)).map (fun v => v.category) = S.map fun v => v.category := by
      rw [List.map_map]; exact List.map_congr_left (fun v _ => vm_cat ad v)
    rw [e]; exact hr
  exact va_mmax hx hb hl.1.symm hown (hts _ (inGd_mem hc.1)) (hts _ (inGd_mem hc.2.1)) (hts _ (inGd_mem hc.2.2.1)) (hts _ (inGd_mem hc.2.2.2)) (by omega) (by omega) hce hsl hd (k H locs ls hP hS hl)
theorem V_mmin (hX : bOk cc nL own d X) {i : Nat} {x y : Int32} (hc : (inGd (.methodLink own i Lib.Math.min.name) && (inGd (.static Lib.Math.min.name) && (inGd (.initialized "java/lang/Math") && inGd (.code Lib.Math.min.name Lib.Math.min.code 2 (some .int))))) = true) (h1 : 1 ≤ d) (hr : (S.map fun v => v.category).sum ≤ 8) (hd : decode cc pc = .ok (.invokestatic i, 3))
    (k : bV X (pc + 3) L (.int (if y < x then y else x) :: S) w) : bV X pc L (.int y :: .int x :: S) w := by
  obtain ⟨p, l, e, R, s, m, args, below, meth, c, cells, slots, Qf, A, dC, dI, cA, ad, adV⟩ := X
  obtain ⟨hx, hb, hml, hown, hts, hK, hA, hlk, hfr, hlo, hce, hsl, hSt, hI, hAk⟩ := hX
  intro H locs ls hP hS hl
  simp only [Bool.and_eq_true] at hc
  have hr2 : ((S.map (vm ad)).map fun v => v.category).sum ≤ 8 := by
    have e : (S.map (vm ad)).map (fun v => v.category) = S.map fun v => v.category := by
      rw [List.map_map]; exact List.map_congr_left (fun v _ => vm_cat ad v)
    rw [e]; exact hr
  exact va_mmin hx hb hl.1.symm hown (hts _ (inGd_mem hc.1)) (hts _ (inGd_mem hc.2.1)) (hts _ (inGd_mem hc.2.2.1)) (hts _ (inGd_mem hc.2.2.2)) (by omega) (by omega) hce hsl hd (k H locs ls hP hS hl)
theorem V_mabs (hX : bOk cc nL own d X) {i : Nat} {x : Int32} (hc : (inGd (.methodLink own i Lib.Math.abs.name) && (inGd (.static Lib.Math.abs.name) && (inGd (.initialized "java/lang/Math") && inGd (.code Lib.Math.abs.name Lib.Math.abs.code 1 (some .int))))) = true) (h1 : 1 ≤ d) (hr : (S.map fun v => v.category).sum ≤ 8) (hd : decode cc pc = .ok (.invokestatic i, 3))
    (k : bV X (pc + 3) L (.int (if 0 ≤ x then x else 0 - x) :: S) w) : bV X pc L (.int x :: S) w := by
  obtain ⟨p, l, e, R, s, m, args, below, meth, c, cells, slots, Qf, A, dC, dI, cA, ad, adV⟩ := X
  obtain ⟨hx, hb, hml, hown, hts, hK, hA, hlk, hfr, hlo, hce, hsl, hSt, hI, hAk⟩ := hX
  intro H locs ls hP hS hl
  simp only [Bool.and_eq_true] at hc
  have hr2 : ((S.map (vm ad)).map fun v => v.category).sum ≤ 8 := by
    have e : (S.map (vm ad)).map (fun v => v.category) = S.map fun v => v.category := by
      rw [List.map_map]; exact List.map_congr_left (fun v _ => vm_cat ad v)
    rw [e]; exact hr
  exact va_mabs hx hb hl.1.symm hown (hts _ (inGd_mem hc.1)) (hts _ (inGd_mem hc.2.1)) (hts _ (inGd_mem hc.2.2.1)) (hts _ (inGd_mem hc.2.2.2)) (by omega) (by omega) hce hsl hd (k H locs ls hP hS hl)
end RULES
