/-! WORDS OF THE PURE FUNCTIONS. f_.. is what a method's bytecode does (none: a test fails that the machine would throw at, or the loops' fuel ends); c_.. says so. -/
abbrev jshl (x y : Int32) : Int32 := x <<< (y &&& 31)
abbrev jshr (x y : Int32) : Int32 := x >>> (y &&& 31)
abbrev jushr (x y : Int32) : Int32 := (x.toUInt32 >>> (y.toUInt32 &&& Int32.toUInt32 31)).toInt32
abbrev jrem (x y : Int32) : Int32 := x - x / y * y
abbrev jlshl (x : Int64) (y : Int32) : Int64 := x <<< (y.toInt64 &&& 63)
abbrev jlshr (x : Int64) (y : Int32) : Int64 := x >>> (y.toInt64 &&& 63)
abbrev jmax (x y : Int32) : Int32 := if x < y then y else x
abbrev jmin (x y : Int32) : Int32 := if y < x then y else x
abbrev jabs (x : Int32) : Int32 := if 0 ≤ x then x else 0 - x
abbrev ix (i : Int32) : Nat := i.toNatClampNeg
/-- slot j of cell k gets x -/
abbrev wS (w : Wd) (k j : Nat) (x : Int32) : Wd := wA w k (upd (w.1 k) j x)
abbrev wL (w : Wd) (x : Int64) : Wd := (w.1, x)
/-- the loops' fuel -/
def fu : Nat := 100000
def inB (i : Int32) (n : Nat) : Bool := decide (0 ≤ i.toInt ∧ i.toInt < n)
theorem inB_in {i : Int32} {n : Nat} (h : inB i n = true) : vp_in i n := vp_in_iff.mpr (by simpa [inB] using h)
def bo (x : Int32) : Bool := decide (x = 0) || decide (x = 1)
theorem bo_nar {x : Int32} (h : bo x = true) : narrow .boolean (.int x) = .int x := by
  simp only [bo, Bool.or_eq_true, decide_eq_true_eq] at h
  rcases h with rfl | rfl <;> rfl
theorem ifn {α : Type} {c : Bool} {t : Option α} {r : α} (h : (if c = true then t else none) = some r) : c = true ∧ t = some r := by
  cases c with
  | true => exact ⟨rfl, by simpa using h⟩
  | false => simp at h
theorem ifz {α : Type} {y : Int32} {t : Option α} {r : α} (h : (if y = 0 then none else t) = some r) : ¬ y = 0 ∧ t = some r := by
  by_cases hy : y = 0
  · rw [if_pos hy] at h; cases h
  · rw [if_neg hy] at h; exact ⟨hy, h⟩
theorem bnd {α β : Type} {o : Option α} {f : α → Option β} {r : β} (h : Option.bind o f = some r) : ∃ q, o = some q ∧ f q = some r := by
  cases o with
  | none => cases h
  | some q => exact ⟨q, rfl, h⟩
/-- fewer locals -/
def mkL : List Bool → List (Option Value) → List (Option Value)
  | true :: m, o :: l => o :: mkL m l
  | false :: m, _ :: l => none :: mkL m l
  | _, _ => []
theorem mkL_at : ∀ (m : List Bool) (l : List (Option Value)) (i : Nat) (v : Value), (mkL m l)[i]? = some (some v) → l[i]? = some (some v)
  | [], _, _, _, h => by simp [mkL] at h
  | true :: _, [], _, _, h => by simp [mkL] at h
  | false :: _, [], _, _, h => by simp [mkL] at h
  | true :: m, o :: l, 0, v, h => by simpa [mkL] using h
  | true :: m, o :: l, i + 1, v, h => by simpa using mkL_at m l i v (by simpa [mkL] using h)
  | false :: m, o :: l, 0, v, h => by simp [mkL] at h
  | false :: m, o :: l, i + 1, v, h => by simpa using mkL_at m l i v (by simpa [mkL] using h)
theorem V_mask {X : bX} {pc : Nat} {L : List (Option Value)} {S : List Value} {w : Wd} (m : List Bool) (k : bV X pc (mkL m L) S w) : bV X pc L S w := by
  obtain ⟨p, l, e, R, s, mm, args, below, meth, c, cells, slots, Qf, A, dC, dI, cA, ad, adV⟩ := X
  intro H locs ls hP hS hl
  exact k H locs ls hP hS ⟨hl.1, hl.2.1, fun i v h => hl.2.2 i v (mkL_at m L i v h)⟩
theorem tb_out {x : Int32} (N : Nat) (h : ∀ j : Nat, j ≤ N → ¬ x = Int32.ofNat j) (hN : N < 2 ^ 31 := by decide) : x.toInt < 0 ∨ (N : Int) < x.toInt := by
  by_cases h0 : x.toInt < 0
  · exact Or.inl h0
  · by_cases h1 : (N : Int) < x.toInt
    · exact Or.inr h1
    · exfalso
      refine h x.toInt.toNat (by omega) ?_
      apply Int32.toInt_inj.mp
      have e := nI_toInt (n := x.toInt.toNat) (by omega)
      show x.toInt = (nI x.toInt.toNat).toInt
      omega
theorem getD_out (l : List Nat) {i : Nat} (h : l.length ≤ i) : l.getD i 0 = 0 := by simp [List.getD, List.getElem?_eq_none h]
/-- the model's one long field -/
theorem lng_one : ∀ i, i ≠ 19 → ([0, 36, 37, 38, 39, 40, 41, 42, 0, 43, 44, 0, 45, 0, 0, 0, 46, 0, 0, 1, 0, 0, 0, 0, 47, 48, 49, 50, 51, 52, 53, 54, 0, 0, 55, 0, 56, 57, 58] : List Nat).getD i 0 ≠ 1 := by
  intro i h
  by_cases hi : i < 39
  · have : ∀ i, i < 39 → i ≠ 19 → ([0, 36, 37, 38, 39, 40, 41, 42, 0, 43, 44, 0, 45, 0, 0, 0, 46, 0, 0, 1, 0, 0, 0, 0, 47, 48, 49, 50, 51, 52, 53, 54, 0, 0, 55, 0, 56, 57, 58] : List Nat).getD i 0 ≠ 1 := by decide
    exact this i hi h
  · have : ([0, 36, 37, 38, 39, 40, 41, 42, 0, 43, 44, 0, 45, 0, 0, 0, 46, 0, 0, 1, 0, 0, 0, 0, 47, 48, 49, 50, 51, 52, 53, 54, 0, 0, 55, 0, 56, 57, 58] : List Nat).getD i 0 = 0 := by
      exact getD_out _ (by simp only [List.length_cons, List.length_nil]; omega)
    rw [this]; decide
section STILL
variable {cc : ByteArray} {nL d pc : Nat} {own : String} {X : bX} {L : List (Option Value)} {S : List Value} {w : Wd}
theorem V_ldcS {i j : Nat} {tx : String} (hX : bOk cc nL "BentFurrows$Reader" d X) (hi : i < 12) (hj : (stx.getD i (0, "")).1 = j) (ht : (stx.getD i (0, "")).2 = tx) (hd : decode cc pc = .ok (.ldc j, 2)) (k : bV X (pc + 2) L (.ref (70 + i) :: S) w) : bV X pc L S w := by
  obtain ⟨p, l, e, R, s, m, args, below, meth, c, cells, slots, Qf, A, dC, dI, cA, ad, adV⟩ := X
  obtain ⟨hx, hb, hml, hown, hts, hK, hA, hlk, hfr, hlo, hce, hsl, hSt, hI, hAk⟩ := hX
  intro H locs ls hP hS hl
  have h6 := hSt.2.2.2.2.2.1 i hi
  rw [hj, ht] at h6
  exact va_ldcS hx hb hown h6 hd (k H locs ls hP hS hl)
theorem V_gets_SLOTS (hX : bOk cc nL "BentFurrows$Reader" d X) {i : Nat} (hc : inGd (.fieldLink "BentFurrows$Reader" i "BentFurrows$Reader" "SLOTS" "[I") = true) (hd : decode cc pc = .ok (.getstatic i, 3)) (k : bV X (pc + 3) L (.ref 60 :: S) w) : bV X pc L S w := by
  obtain ⟨p, l, e, R, s, m, args, below, meth, c, cells, slots, Qf, A, dC, dI, cA, ad, adV⟩ := X
  obtain ⟨hx, hb, hml, hown, hts, hK, hA, hlk, hfr, hlo, hce, hsl, hSt, hI, hAk⟩ := hX
  intro H locs ls hP hS hl
  exact va_gets hx hb hSt.1 hS hown (hts _ (inGd_mem hc)) (fun _ h => h) hd (k H locs ls hP hS hl)
theorem V_gets_FIRST_SLOT (hX : bOk cc nL "BentFurrows$Reader" d X) {i : Nat} (hc : inGd (.fieldLink "BentFurrows$Reader" i "BentFurrows$Reader" "FIRST_SLOT" "[I") = true) (hd : decode cc pc = .ok (.getstatic i, 3)) (k : bV X (pc + 3) L (.ref 61 :: S) w) : bV X pc L S w := by
  obtain ⟨p, l, e, R, s, m, args, below, meth, c, cells, slots, Qf, A, dC, dI, cA, ad, adV⟩ := X
  obtain ⟨hx, hb, hml, hown, hts, hK, hA, hlk, hfr, hlo, hce, hsl, hSt, hI, hAk⟩ := hX
  intro H locs ls hP hS hl
  exact va_gets hx hb hSt.2.2.1 hS hown (hts _ (inGd_mem hc)) (fun _ h => h) hd (k H locs ls hP hS hl)
/-- the int arrays: 0 to 56 as laid, 60 and 61 Reader's tables -/
def arN (k : Nat) : Option Nat := if k = 60 then some 81 else if k = 61 then some 8 else if k < 57 then (match lay k with | .inl n => some n | .inr _ => none) else none
def rdC (w : Wd) (k j : Nat) : Int32 := if k = 60 then tbS.getD j 0 else if k = 61 then tbF.getD j 0 else w.1 k j
theorem V_aldC (hX : bOk cc nL own d X) {k n : Nat} {i : Int32} (hn : arN k = some n) (hi : vp_in i n) (hd : decode cc pc = .ok (.iaload, 1)) (kk : bV X (pc + 1) L (.int (rdC w k (ix i)) :: S) w) : bV X pc L (.int i :: .ref k :: S) w := by
  unfold arN at hn
  by_cases h0 : k = 60
  · rw [if_pos h0] at hn; cases hn; subst h0
    obtain ⟨p, l, e, R, s, m, args, below, meth, c, cells, slots, Qf, A, dC, dI, cA, ad, adV⟩ := X
    obtain ⟨hx, hb, hml, hown, hts, hK, hA, hlk, hfr, hlo, hce, hsl, hSt, hI, hAk⟩ := hX
    intro H locs ls hP hS hl
    exact va_ti hx hb hSt.2.1 hS hi rfl hd (kk H locs ls hP hS hl)
  · rw [if_neg h0] at hn
    by_cases h1 : k = 61
    · rw [if_pos h1] at hn; cases hn; subst h1
      obtain ⟨p, l, e, R, s, m, args, below, meth, c, cells, slots, Qf, A, dC, dI, cA, ad, adV⟩ := X
      obtain ⟨hx, hb, hml, hown, hts, hK, hA, hlk, hfr, hlo, hce, hsl, hSt, hI, hAk⟩ := hX
      intro H locs ls hP hS hl
      exact va_ti hx hb hSt.2.2.2.1 hS hi rfl hd (kk H locs ls hP hS hl)
    · rw [if_neg h1] at hn
      by_cases h2 : k < 57
      · rw [if_pos h2] at hn
        cases hy : lay k with
        | inr q => rw [hy] at hn; cases hn
        | inl n2 =>
          rw [hy] at hn; cases hn
          have e : rdC w k (ix i) = w.1 k (ix i) := by simp [rdC, h0, h1]
          rw [e] at kk
          exact V_iald hX h2 hy hi hd kk
      · rw [if_neg h2] at hn; cases hn
theorem V_alenC (hX : bOk cc nL own d X) {k n : Nat} (hn : arN k = some n) (hd : decode cc pc = .ok (.arraylength, 1)) (kk : bV X (pc + 1) L (.int (nI n) :: S) w) : bV X pc L (.ref k :: S) w := by
  unfold arN at hn
  by_cases h0 : k = 60
  · rw [if_pos h0] at hn; cases hn; subst h0
    obtain ⟨p, l, e, R, s, m, args, below, meth, c, cells, slots, Qf, A, dC, dI, cA, ad, adV⟩ := X
    obtain ⟨hx, hb, hml, hown, hts, hK, hA, hlk, hfr, hlo, hce, hsl, hSt, hI, hAk⟩ := hX
    intro H locs ls hP hS hl
    exact va_tlen hx hb hSt.2.1 hS rfl hd (kk H locs ls hP hS hl)
  · rw [if_neg h0] at hn
    by_cases h1 : k = 61
    · rw [if_pos h1] at hn; cases hn; subst h1
      obtain ⟨p, l, e, R, s, m, args, below, meth, c, cells, slots, Qf, A, dC, dI, cA, ad, adV⟩ := X
      obtain ⟨hx, hb, hml, hown, hts, hK, hA, hlk, hfr, hlo, hce, hsl, hSt, hI, hAk⟩ := hX
      intro H locs ls hP hS hl
      exact va_tlen hx hb hSt.2.2.2.1 hS rfl hd (kk H locs ls hP hS hl)
    · rw [if_neg h1] at hn
      by_cases h2 : k < 57
      · rw [if_pos h2] at hn
        cases hy : lay k with
        | inr q => rw [hy] at hn; cases hn
        | inl n2 =>
          rw [hy] at hn; cases hn
          exact V_alen hX h2 hy rfl hd kk
      · rw [if_neg h2] at hn; cases hn
end STILL
theorem arN_lt {k n : Nat} (h : arN k = some n) : n < 2 ^ 31 := by
  unfold arN at h
  split at h
  · cases h; decide
  · split at h
    · cases h; decide
    · split at h
      · rename_i h2
        have : ∀ k, k < 57 → (match lay k with | .inl n => decide (n < 2 ^ 31) | .inr _ => true) = true := by decide
        have h3 := this k h2
        cases hy : lay k with
        | inr q => rw [hy] at h; cases h
        | inl m => rw [hy] at h h3; cases h; simpa using h3
      · cases h
theorem in_of {i : Int32} {n : Nat} (hn : n < 2 ^ 31) (h0 : ¬ i < 0) (h1 : ¬ nI n ≤ i) : vp_in i n := by
  obtain ⟨j, hj, rfl⟩ := nI_of h0
  refine vp_in_nI ?_ hn
  rcases Nat.lt_or_ge j n with h | h
  · exact h
  · exact absurd (nI_le h hj) h1
