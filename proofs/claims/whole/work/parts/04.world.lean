/-! The world: 57 cells in the order in which they are made (0 to 32 the class, 33 to 56 the reference); its ints, and the one long. -/
abbrev Wd : Type := (Nat → Nat → Int32) × Int64
/-- the shape of a cell: an int array of a length, or an object: its class, its slots (0 int, 1 long, c + 2 the cell c) -/
def lay : Nat → Nat ⊕ (Nat × List Nat)
  | 0 => .inr (9, [3, 5, 7, 14, 19, 21, 22, 29, 31])
  | 1 => .inr (6, [4, 0])
  | 2 => .inl 200
  | 3 => .inr (4, [3, 6, 0, 0, 0])
  | 4 => .inl 88
  | 5 => .inr (0, [0, 8, 9, 10, 11, 12, 0, 0, 13, 0, 0])
  | 6 => .inl 72
  | 7 => .inl 56
  | 8 => .inl 14
  | 9 => .inl 14
  | 10 => .inl 14
  | 11 => .inl 52
  | 12 => .inr (8, [7, 15, 16, 17, 18])
  | 13 => .inl 14
  | 14 => .inl 14
  | 15 => .inl 14
  | 16 => .inl 14
  | 17 => .inr (1, [7, 14, 20])
  | 18 => .inl 8
  | 19 => .inr (3, [7, 14])
  | 20 => .inr (5, [7, 23, 24, 25, 26, 27, 28, 0, 0])
  | 21 => .inl 5
  | 22 => .inl 5
  | 23 => .inl 5
  | 24 => .inl 8
  | 25 => .inl 5
  | 26 => .inl 5
  | 27 => .inr (7, [30])
  | 28 => .inl 30
  | 29 => .inr (2, [7, 32, 33, 34, 0])
  | 30 => .inl 8
  | 31 => .inl 8
  | 32 => .inl 8
  | 33 => .inr (10, [0, 36, 37, 38, 39, 40, 41, 42, 0, 43, 44, 0, 45, 0, 0, 0, 46, 0, 0, 1, 0, 0, 0, 0, 47, 48, 49, 50, 51, 52, 53, 54, 0, 0, 55, 0, 56, 57, 58])
  | 34 => .inl 56
  | 35 => .inl 14
  | 36 => .inl 14
  | 37 => .inl 14
  | 38 => .inl 14
  | 39 => .inl 14
  | 40 => .inl 14
  | 41 => .inl 14
  | 42 => .inl 14
  | 43 => .inl 52
  | 44 => .inl 200
  | 45 => .inl 88
  | 46 => .inl 14
  | 47 => .inl 14
  | 48 => .inl 14
  | 49 => .inl 5
  | 50 => .inl 5
  | 51 => .inl 6
  | 52 => .inl 5
  | 53 => .inl 30
  | 54 => .inl 8
  | 55 => .inl 8
  | 56 => .inl 8
  | _ => .inl 0

/-- a value with the cells' numbers in place of addresses, turned to one with addresses -/
def vm (ad : Nat → Nat) : Value → Value
  | .ref a => .ref (ad a)
  | .int x => .int x
  | .long x => .long x
  | .float x => .float x
  | .double x => .double x
  | .null => .null
  | .retAddr x => .retAddr x
theorem vm_cat (ad : Nat → Nat) (v : Value) : (vm ad v).category = v.category := by cases v <;> rfl
/-- what a slot holds -/
def slV (w : Wd) (k j : Nat) : Nat → Value
  | 0 => .int (w.1 k j)
  | 1 => .long w.2
  | c + 2 => .ref c
def cellE (cA : ClassId) (ad : Nat → Nat) (w : Wd) (k : Nat) : va_E := match lay k with
  | .inl n => .inl (cA, n, .inl (w.1 k))
  | .inr (ci, fs) => .inr (ci, (List.range fs.length).map (fun j => vm ad (slV w k j (fs.getD j 0))))
def wsOf (cA : ClassId) (ad : Nat → Nat) (w : Wd) : va_W := (List.range 57).map (fun k => (ad k, cellE cA ad w k))
theorem wsOf_at {cA : ClassId} {ad : Nat → Nat} {w : Wd} {k : Nat} (h : k < 57) : (wsOf cA ad w)[k]? = some (ad k, cellE cA ad w k) := by
  simp [wsOf, h]
theorem wsOf_at' {cA : ClassId} {ad : Nat → Nat} {w : Wd} {k : Nat} {q : Nat × va_E} (h : (wsOf cA ad w)[k]? = some q) : k < 57 ∧ q = (ad k, cellE cA ad w k) := by
  by_cases hk : k < 57
  · rw [wsOf_at hk] at h
    exact ⟨hk, (Option.some.inj h).symm⟩
  · have : (wsOf cA ad w)[k]? = none := by simp [wsOf]; omega
    rw [this] at h; cases h
/-- the cell k gets new contents -/
def wA (w : Wd) (k : Nat) (f : Nat → Int32) : Wd := (fun a => if a = k then f else w.1 a, w.2)
theorem wsOf_set {cA : ClassId} {ad : Nat → Nat} {w w' : Wd} {k : Nat} {e : va_E} (hk : k < 57) (h1 : ∀ a, a ≠ k → cellE cA ad w' a = cellE cA ad w a) (h2 : cellE cA ad w' k = e) : (wsOf cA ad w).set k (ad k, e) = wsOf cA ad w' := by
  apply List.ext_getElem?
  intro i
  rw [List.getElem?_set]
  by_cases hi : i < 57
  · rw [wsOf_at hi]
    by_cases he : k = i
    · subst he
      rw [if_pos rfl, if_pos (by simpa [wsOf] using hk), wsOf_at hk, h2]
    · rw [if_neg he, wsOf_at hi, h1 i (fun z => he z.symm)]
  · have n1 : ∀ w : Wd, (wsOf cA ad w)[i]? = none := fun w => by simp [wsOf]; omega
    rw [n1, n1, if_neg (by omega)]
theorem cellE_ne {cA : ClassId} {ad : Nat → Nat} {w : Wd} {k a : Nat} {f : Nat → Int32} (h : a ≠ k) : cellE cA ad (wA w k f) a = cellE cA ad w a := by
  have e : (wA w k f).1 a = w.1 a := by simp [wA, h]
  unfold cellE
  cases lay a with
  | inl n => simp only [e]
  | inr q =>
    obtain ⟨ci, fs⟩ := q
    simp only
    congr 3
    funext j
    cases hj : fs.getD j 0 with
    | zero => simp only [slV, e]
    | succ n => cases n with
      | zero => rfl
      | succ n => rfl
theorem wsOf_arr {cA : ClassId} {ad : Nat → Nat} {w : Wd} {k n : Nat} {f : Nat → Int32} (hk : k < 57) (hl : lay k = .inl n) : (wsOf cA ad w).set k (ad k, .inl (cA, n, .inl f)) = wsOf cA ad (wA w k f) := by
  refine wsOf_set hk (fun a h => cellE_ne h) ?_
  unfold cellE
  rw [hl]
  simp [wA]
/-- an int field gets a new value -/
theorem wsOf_fld {cA : ClassId} {ad : Nat → Nat} {w : Wd} {k ci j : Nat} {fs : List Nat} {x : Int32} (hk : k < 57) (hl : lay k = .inr (ci, fs)) (hj : fs[j]? = some 0) : (wsOf cA ad w).set k (ad k, .inr (ci, ((List.range fs.length).map (fun j => vm ad (slV w k j (fs.getD j 0)))).set j (.int x))) = wsOf cA ad (wA w k (upd (w.1 k) j x)) := by
  refine wsOf_set hk (fun a h => cellE_ne h) ?_
  unfold cellE
  rw [hl]
  simp only
  congr 2
  apply List.ext_getElem?
  intro i
  rw [List.getElem?_set]
  have hjl : j < fs.length := (List.getElem?_eq_some_iff.mp hj).1
  by_cases he : j = i
  · subst he
    have hd : fs[j] = 0 := (List.getElem?_eq_some_iff.mp hj).2
    rw [if_pos rfl, if_pos (by simpa using hjl)]
    simp [hjl, hd, slV, vm, wA, upd]
  · rw [if_neg he]
    by_cases hi : i < fs.length
    · simp only [List.getElem?_map, List.getElem?_range hi, Option.map_some]
      congr 2
      cases hq : fs.getD i 0 with
      | zero =>
        simp [slV, wA, upd]
        exact fun z => absurd z.symm he
      | succ n => cases n with
        | zero => rfl
        | succ n => rfl
    · simp [hi]
/-- the long gets a new value -/
theorem cellE_long {cA : ClassId} {ad : Nat → Nat} {w : Wd} {a : Nat} {x : Int64} (h : a ≠ 33) : cellE cA ad (w.1, x) a = cellE cA ad w a := by
  unfold cellE
  split
  · rfl
  · rename_i ci fs hl
    have hn : ∀ j, fs.getD j 0 ≠ 1 := by
      intro j hj
      by_cases hb : a < 57
      · have : ∀ a, a < 57 → a ≠ 33 → (match lay a with | .inl _ => true | .inr (_, fs) => fs.all (fun s => s != 1)) = true := by decide
        have h2 := this a hb h
        rw [hl] at h2
        simp only [List.all_eq_true, bne_iff_ne, ne_eq] at h2
        by_cases hjl : j < fs.length
        · exact h2 fs[j] (List.getElem_mem hjl) (by simpa [List.getD, hjl] using hj)
        · simp [List.getD, hjl] at hj
      · have : lay a = .inl 0 := by
          unfold lay
          split <;> first | omega | rfl
        rw [this] at hl; cases hl
    congr 3
    funext j
    cases hq : fs.getD j 0 with
    | zero => rfl
    | succ n => cases n with
      | zero => exact absurd hq (hn j)
      | succ n => rfl
theorem wsOf_lng {cA : ClassId} {ad : Nat → Nat} {w : Wd} {j : Nat} {x : Int64} {ci : Nat} {fs : List Nat} (hl : lay 33 = .inr (ci, fs)) (hj : fs[j]? = some 1) (h1 : ∀ i, i ≠ j → fs.getD i 0 ≠ 1) : (wsOf cA ad w).set 33 (ad 33, .inr (ci, ((List.range fs.length).map (fun j => vm ad (slV w 33 j (fs.getD j 0)))).set j (.long x))) = wsOf cA ad (w.1, x) := by
  refine wsOf_set (by decide) (fun a h => cellE_long h) ?_
  unfold cellE
  rw [hl]
  simp only
  congr 2
  apply List.ext_getElem?
  intro i
  rw [List.getElem?_set]
  have hjl : j < fs.length := (List.getElem?_eq_some_iff.mp hj).1
  by_cases he : j = i
  · subst he
    have hd : fs[j] = 1 := (List.getElem?_eq_some_iff.mp hj).2
    rw [if_pos rfl, if_pos (by simpa using hjl)]
    simp [hjl, hd, slV, vm]
  · rw [if_neg he]
    by_cases hi : i < fs.length
    · simp only [List.getElem?_map, List.getElem?_range hi, Option.map_some]
      congr 2
      cases hq : fs.getD i 0 with
      | zero => rfl
      | succ n => cases n with
        | zero => exact absurd hq (h1 i (fun z => he z.symm))
        | succ n => rfl
    · simp [hi]
/-- the cells' addresses differ -/
def adI (ad : Nat → Nat) : Prop := ∀ i j : Nat, i < 57 → j < 57 → ad i = ad j → i = j
def Aof (ad : Nat → Nat) (sz : Nat) : Nat → Prop := fun q => (∃ k, k < 57 ∧ q = ad k) ∨ sz ≤ q
theorem wsOf_D {cA : ClassId} {ad : Nat → Nat} {w : Wd} {A : Nat → Prop} (hi : adI ad) (hA : ∀ k, k < 57 → A (ad k)) : va_D A (wsOf cA ad w) := by
  refine ⟨fun i j p q h1 h2 e => ?_, fun k q h => ?_⟩
  · obtain ⟨a1, rfl⟩ := wsOf_at' h1
    obtain ⟨a2, rfl⟩ := wsOf_at' h2
    exact hi i j a1 a2 e
  · obtain ⟨a1, rfl⟩ := wsOf_at' h
    exact hA k a1


/-- the words' texts: where they stand in Reader's pool, their signs -/
def stx : List (Nat × String) := [(41, ";"), (81, "bundle"), (83, "mark"), (85, "year"), (87, "over"), (89, "team"), (91, "slack"), (93, "gap"), (98, "east"), (100, "north"), (106, "left"), (108, "right")]
def stb : List (List Int32) := [[59], [98, 117, 110, 100, 108, 101], [109, 97, 114, 107], [121, 101, 97, 114], [111, 118, 101, 114], [116, 101, 97, 109], [115, 108, 97, 99, 107], [103, 97, 112], [101, 97, 115, 116], [110, 111, 114, 116, 104], [108, 101, 102, 116], [114, 105, 103, 104, 116]]
def stl : List Nat := [1, 6, 4, 4, 4, 4, 5, 3, 4, 5, 4, 5]
/-- Reader's two tables -/
def tbS : List Int32 := [0, 0, 7, 0, 0, 999, 0, 0, 999, 3, 0, 1, 0, 1, 30, 0, 1, 20, 0, 1, 500, 0, 0, 40, 4, 0, 1, 0, 0, 60, 0, 8, 13, 0, 0, 999, 0, 0, 999, 0, 1, 999, 0, 1, 999, 0, 0, 13, 0, 0, 2000, 1, 0, 2000, 0, 0, 13, 2, 0, 13, 0, 1, 12, 0, 0, 40, 1, 0, 40, 0, 0, 2000, 1, 0, 2000, 0, 0, 99, 0, 0, 99]
def tbF : List Int32 := [0, 10, 15, 18, 20, 25, 26, 27]
/-- what stands still: Reader's tables (numbers 60 and 61), the words' texts (70 and on), String's static, nest mates' words -/
def StA (ad _adV : Nat → Nat) (A : Nat → Prop) (U : State) : Prop :=
  va_Z "BentFurrows$Reader" "SLOTS" "[I" (.ref (ad 60)) A U U.heap ∧ va_T .int (ad 60) 81 (fun j => .int (tbS.getD j 0)) A U U.heap ∧ va_Z "BentFurrows$Reader" "FIRST_SLOT" "[I" (.ref (ad 61)) A U U.heap ∧ va_T .int (ad 61) 8 (fun j => .int (tbF.getD j 0)) A U U.heap ∧
  (va_Z "java/lang/String" "COMPACT_STRINGS" "Z" (.int 1) A U U.heap ∧ (va_Z "jdk/internal/util/Preconditions" "SIOOBE_FORMATTER" "Ljava/util/function/BiFunction;" .null A U U.heap ∨ va_Z "jdk/internal/util/Preconditions" "SIOOBE_FORMATTER" "Ljava/util/function/BiFunction;" (.ref (ad 62)) A U U.heap)) ∧ (∀ i, i < 12 → vk_R "BentFurrows$Reader" (stx.getD i (0, "")).1 (stx.getD i (0, "")).2 (ad (70 + i)) U) ∧ vk_S 12 stl stb (fun i => ad (70 + i)) (fun i => ad (90 + i)) A U U.heap ∧ ∀ w ∈ lw_nest, va_Nw w U
theorem nest_warm {s U : State} (hW : s.WarmedH U.vm) (h : ∀ w ∈ lw_nest, va_Nw w s) : ∀ w ∈ lw_nest, va_Nw w U := by
  intro w hw
  have hn := (List.mem_filter.mp hw).2
  have h1 := h w hw
  cases w <;> first | exact va_Nw.warmF hW h1 | exact va_Nw.warmM hW h1 | simp [isNest] at hn
theorem nest_same {s U : State} (hv : s.vm = U.vm) (h : ∀ w ∈ lw_nest, va_Nw w s) : ∀ w ∈ lw_nest, va_Nw w U := by
  intro w hw
  have hn := (List.mem_filter.mp hw).2
  have h1 := h w hw
  refine va_Nw.same ?_ hv h1
  cases w <;> first | rfl | simp [isNest] at hn
/-- what stands still, seen from a state that came of s -/
theorem StA.warm {ad adV : Nat → Nat} {A B : Nat → Prop} {s U : State} (h : StA ad adV A s) (hW : s.WarmedH U.vm) (hq : ∀ q : Nat, q < s.heap.size → ¬ A q → U.heap[q]? = s.heap[q]?) (hB : ∀ q, B q → A q) : StA ad adV B U := by
  obtain ⟨h1, h2, h3, h4, h5, h6, h7, h8⟩ := h
  refine ⟨((h1.moved hW.alike).kept hq).narrow hB, ((h2.moved hW.alike).kept hq).narrow hB, ((h3.moved hW.alike).kept hq).narrow hB, ((h4.moved hW.alike).kept hq).narrow hB, ⟨((h5.1.moved hW.alike).kept hq).narrow hB, h5.2.imp (fun z => ((z.moved hW.alike).kept hq).narrow hB) (fun z => ((z.moved hW.alike).kept hq).narrow hB)⟩, fun i hi => (h6 i hi).warm hW, ((h7.moved hW.alike).kept hq).narrow hB, nest_warm hW h8⟩
theorem StA.call {ad adV : Nat → Nat} {A : Nat → Prop} {U : State} (g : JFrame) (mk : MethodId) (a : Array Value) (h : StA ad adV A U) : StA ad adV A (U.calling g mk a) := by
  obtain ⟨h1, h2, h3, h4, h5, h6, h7, h8⟩ := h
  have hv : U.vm.Alike (U.calling g mk a).vm := Vm.Alike.refl U.vm
  exact ⟨h1.moved hv, h2.moved hv, h3.moved hv, h4.moved hv, ⟨h5.1.moved hv, h5.2.imp (fun z => z.moved hv) (fun z => z.moved hv)⟩, fun i hi => vk_R.same (u := U) (U := U.calling g mk a) rfl (h6 i hi), h7.moved hv, nest_same (s := U) (U := U.calling g mk a) rfl h8⟩

