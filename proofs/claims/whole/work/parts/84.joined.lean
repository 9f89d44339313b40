/-! joined -/
def bxI (w : Wd) (t k : Nat) : Int := (w.1 7 (4 * t + k)).toInt
def wy (w : Wd) (b : Nat) : Nat := (w.1 6 (9 * b + 2)).toInt.toNat
def wdN (w : Wd) (b : Nat) : Nat := (w.1 6 (9 * b + 4)).toInt.toNat
def slN (w : Wd) : Nat := (w.1 5 9).toInt.toNat
def gpN (w : Wd) : Nat := (w.1 5 10).toInt.toNat
theorem bxI_t (w : Wd) (t k : Nat) : w.1 7 (4 * t + k) = tI (bxI w t k) := (tI_of _).symm
theorem nb_N {x : Int32} {a b : Nat} (h : nb x a b) (hb : b < 2 ^ 31) : x = nI x.toInt.toNat ∧ a ≤ x.toInt.toNat ∧ x.toInt.toNat ≤ b := by
  obtain ⟨n, h1, h2, e⟩ := h
  subst e
  rw [nI_toInt (by omega), Int.toNat_natCast]
  exact ⟨rfl, h1, h2⟩
theorem nb_I {x : Int32} {a b : Nat} (h : nb x a b) (hb : b < 2 ^ 31) : (a : Int) ≤ x.toInt ∧ x.toInt ≤ b := by
  obtain ⟨n, h1, h2, e⟩ := h
  subst e
  rw [nI_toInt (by omega)]
  omega
theorem Rel.slk {w : Wd} (h : Rel w) : w.1 5 9 = nI (slN w) ∧ slN w ≤ 99 := by
  have := nb_N h.n.2.2.2.1 (by decide)
  exact ⟨this.1, this.2.2⟩
theorem Rel.gpk {w : Wd} (h : Rel w) : w.1 5 10 = nI (gpN w) ∧ gpN w ≤ 99 := by
  have := nb_N h.n.2.2.2.2.1 (by decide)
  exact ⟨this.1, this.2.2⟩
/-- a bundle's way, and what its box says of it -/
theorem Rel.bun {w : Wd} (h : Rel w) {b : Nat} (hb : b < 8) (ht : bt (w.1 5 0) b = true) : wy w b ≤ 1 ∧ w.1 6 (9 * b + 2) = nI (wy w b) ∧ w.1 6 (9 * b + 5) = tI (bxI w b (2 + wy w b)) ∧ w.1 6 (9 * b + 3) * w.1 6 (9 * b + 4) = tI (bxI w b (3 - wy w b)) := by
  obtain ⟨-, -, -, -, h2, -, -, -, -, -, -, c0, c1⟩ := h.2.2.1 b hb ht
  obtain ⟨e, -, le⟩ := nb_N h2 (by decide)
  have le' : wy w b ≤ 1 := le
  refine ⟨le', e, ?_⟩
  rcases (by omega : wy w b = 0 ∨ wy w b = 1) with q | q
  · have e0 : w.1 6 (9 * b + 2) = 0 := by rw [e]; show nI (wy w b) = 0; rw [q]; rfl
    obtain ⟨a1, a2⟩ := c0 e0
    rw [q]
    exact ⟨by rw [← bxI_t, a1], by rw [← bxI_t, a2]⟩
  · have e0 : w.1 6 (9 * b + 2) = 1 := by rw [e]; show nI (wy w b) = 1; rw [q]; rfl
    obtain ⟨a1, a2⟩ := c1 e0
    rw [q]
    exact ⟨by rw [← bxI_t, a1], by rw [← bxI_t, a2]⟩
theorem Rel.wid {w : Wd} (h : Rel w) {b : Nat} (hb : b < 8) (ht : bt (w.1 5 0) b = true) : w.1 6 (9 * b + 4) = nI (wdN w b) ∧ 1 ≤ wdN w b ∧ wdN w b ≤ 20 := by
  obtain ⟨-, -, -, -, -, -, h4, -⟩ := h.2.2.1 b hb ht
  exact nb_N h4 (by decide)
theorem Rel.bxb {w : Wd} (h : Rel w) {t : Nat} (ht : t < 14) (hb : bt (w.1 5 0) t = true) {k : Nat} (hk : k < 4) : (0 ≤ bxI w t k ∧ bxI w t k ≤ 999) ∧ (2 ≤ k → 1 ≤ bxI w t k) := by
  by_cases h8 : t < 8
  · obtain ⟨e0, e1, n0, n1, h2, h3, h4, h5, -, -, -, c0, c1⟩ := h.2.2.1 t h8 hb
    obtain ⟨x, x1, x2, ex⟩ := h3
    obtain ⟨y, y1, y2, ey⟩ := h4
    have n5 := nb_I h5 (by decide)
    have m1 : x * y ≤ 30 * 20 := Nat.mul_le_mul x2 y2
    have m2 : 1 * 1 ≤ x * y := Nat.mul_le_mul x1 y1
    have mm : (w.1 6 (9 * t + 3) * w.1 6 (9 * t + 4)).toInt = (x * y : Nat) := by rw [ex, ey, pk_mul, nI_toInt (by omega)]
    have n0 := nb_I n0 (by decide)
    have n1 := nb_I n1 (by decide)
    obtain ⟨z, z1, z2, ez⟩ := h2
    unfold bxI
    rcases (by omega : k = 0 ∨ k = 1 ∨ k = 2 ∨ k = 3) with q | q | q | q <;> subst q
    · rw [Nat.add_zero, ← e0]; omega
    · rw [← e1]; omega
    · rcases (by omega : z = 0 ∨ z = 1) with q | q <;> subst q
      · rw [(c0 ez).1]; omega
      · rw [(c1 ez).2, mm]; omega
    · rcases (by omega : z = 0 ∨ z = 1) with q | q <;> subst q
      · rw [(c0 ez).2, mm]; omega
      · rw [(c1 ez).1]; omega
  · obtain ⟨n0, n1, n2, n3⟩ := h.2.2.2.1 t (by omega) ht hb
    have n0 := nb_I n0 (by decide)
    have n1 := nb_I n1 (by decide)
    have n2 := nb_I n2 (by decide)
    have n3 := nb_I n3 (by decide)
    unfold bxI
    rcases (by omega : k = 0 ∨ k = 1 ∨ k = 2 ∨ k = 3) with q | q | q | q <;> subst q <;> (try rw [Nat.add_zero]) <;> omega
def mnI (a b : Int) : Int := if b < a then b else a
theorem tI_mn2 {a b : Int} (ha : -10000 ≤ a ∧ a ≤ 10000) (hb : -10000 ≤ b ∧ b ≤ 10000) : jmin (tI a) (tI b) = tI (mnI a b) := by
  unfold jmin mnI
  simp only [tI_lt (x := b) (y := a) (by unfold smI; omega) (by unfold smI; omega)]
  split <;> rfl
theorem tI_add (x y : Int) : tI x + tI y = tI (x + y) := by unfold tI; rw [Int32.ofInt_add]
theorem tI_sb (x y : Int) : tI x - tI y = tI (x - y) := by unfold tI; rw [Int32.ofInt_sub]
theorem e_begins {t k : Nat} (ht : t < 14) (hk : k < 4) (w : Wd) : f_X0_begins (nI t) (nI k) w = some (tI (bxI w t k), w) := by
  unfold f_X0_begins
  rw [show nI t * 4 + nI k = nI (t * 4 + k) from nl t 4 k, e_at (k := 7) (by decide) lay_7, Option.bind_some, atv_in (by omega) (by decide), ← bxI_t, Nat.mul_comm]
theorem e_ends {t k : Nat} (ht : t < 14) (hk : k < 2) (w : Wd) : f_X0_ends (nI t) (nI k) w = some (tI (bxI w t k + bxI w t (2 + k)), w) := by
  unfold f_X0_ends
  rw [show nI t * 4 + nI k = nI (t * 4 + k) from nl t 4 k, show nI t * 4 + 2 + nI k = nI (t * 4 + 2 + k) by rw [show nI t * 4 + 2 = nI (t * 4 + 2) from nl t 4 2, nI_add], e_at (k := 7) (by decide) lay_7, Option.bind_some]
  dsimp only
  rw [e_at (k := 7) (by decide) lay_7, Option.bind_some, atv_in (by omega) (by decide), atv_in (by omega) (by decide), ← tI_add, ← bxI_t, ← bxI_t, Nat.mul_comm t 4, Nat.add_assoc]
def ybI (w : Wd) (a b k : Nat) : Int := mxI (bxI w a k) (bxI w b k) - mnI (bxI w a k + bxI w a (2 + k)) (bxI w b k + bxI w b (2 + k))
theorem e_yb {w : Wd} (h : Rel w) {a b k : Nat} (ha : a < 14) (hb : b < 14) (ta : bt (w.1 5 0) a = true) (tb : bt (w.1 5 0) b = true) (hk : k < 2) : f_X0_yardsBetween (nI a) (nI b) (nI k) w = some (tI (ybI w a b k), w) := by
  have a1 := h.bxb ha ta (k := k) (by omega)
  have a2 := h.bxb ha ta (k := 2 + k) (by omega)
  have b1 := h.bxb hb tb (k := k) (by omega)
  have b2 := h.bxb hb tb (k := 2 + k) (by omega)
  unfold f_X0_yardsBetween ybI
  rw [e_begins ha (by omega), Option.bind_some]
  dsimp only
  rw [e_begins hb (by omega), Option.bind_some]
  dsimp only
  rw [e_ends ha hk, Option.bind_some]
  dsimp only
  rw [e_ends hb hk, Option.bind_some]
  dsimp only
  rw [tI_mx2 (by omega) (by omega), tI_mn2 (by omega) (by omega), tI_sb]
theorem yb_b {w : Wd} (h : Rel w) {a b k : Nat} (ha : a < 14) (hb : b < 14) (ta : bt (w.1 5 0) a = true) (tb : bt (w.1 5 0) b = true) (hk : k < 2) : smI (ybI w a b k) := by
  have a1 := h.bxb ha ta (k := k) (by omega)
  have a2 := h.bxb ha ta (k := 2 + k) (by omega)
  have b1 := h.bxb hb tb (k := k) (by omega)
  have b2 := h.bxb hb tb (k := 2 + k) (by omega)
  unfold ybI mxI mnI smI
  split <;> split <;> omega
/-- near enough to a whole number -/
def ofB (w : Wd) (n d : Nat) : Bool := decide (n ≤ slN w) || decide ((d : Int) - n ≤ slN w)
theorem e_wouldDo {w : Wd} (h : Rel w) {n d : Nat} (hn : n ≤ 1000) (hd : d ≤ 1000) : f_X1_wouldDo (nI n) (nI d) w = some (b2i (ofB w n d), w) := by
  obtain ⟨e, l⟩ := h.slk
  unfold f_X1_wouldDo ofB
  rw [e, ← tI_nI, ← tI_nI, ← tI_nI, tI_sb, tI_mn2 (by omega) (by omega)]
  simp only [tI_lt (x := (slN w : Int)) (y := mnI n (d - n)) (by unfold smI; omega) (by unfold smI mnI; split <;> omega)]
  unfold mnI
  by_cases c1 : n ≤ slN w
  · rw [decide_eq_true c1, Bool.true_or, if_neg (by split <;> omega)]; rfl
  · rw [decide_eq_false c1, Bool.false_or]
    by_cases c2 : (d : Int) - n ≤ slN w
    · rw [decide_eq_true c2, if_neg (by split <;> omega)]; rfl
    · rw [decide_eq_false c2, if_pos (by split <;> omega)]; rfl
theorem m_isOff {w : Wd} (h : Rel w) {n d : Nat} (hn : n ≤ 1000) (hd : d ≤ 1000) : f_X10_isOff (nI n) (nI d) w = some (b2i (ofB w n d), w) := by
  obtain ⟨e, l⟩ := h.slk
  have e33 : w.1 33 13 = w.1 5 9 := h.e.2.2.2.1
  unfold f_X10_isOff ofB
  rw [e33, e, ← tI_nI, ← tI_nI, ← tI_nI, tI_sb]
  simp only [tI_le (x := (n : Int)) (y := (slN w : Int)) (by unfold smI; omega) (by unfold smI; omega), tI_lt (x := (slN w : Int)) (y := (d : Int) - n) (by unfold smI; omega) (by unfold smI; omega)]
  by_cases c1 : n ≤ slN w
  · rw [decide_eq_true c1, Bool.true_or, if_pos (by omega)]; rfl
  · rw [decide_eq_false c1, Bool.false_or, if_neg (by omega)]
    by_cases c2 : (d : Int) - n ≤ slN w
    · rw [decide_eq_true c2, if_neg (by omega)]; rfl
    · rw [decide_eq_false c2, if_pos (by omega)]; rfl
def alk (w : Wd) (a b k : Nat) : Bool := decide (w.1 6 (9 * a + k) = w.1 6 (9 * b + k))
theorem e_alk {a b k : Nat} (ha : a < 8) (hb : b < 8) (hk : k < 9) (w : Wd) : f_X1_areAlike (nI a) (nI b) (nI k) w = some (b2i (alk w a b k), w) := by
  unfold f_X1_areAlike alk
  rw [e_part ha hk, Option.bind_some]
  dsimp only
  rw [e_part hb hk, Option.bind_some]
  dsimp only
  by_cases h : w.1 6 (9 * a + k) = w.1 6 (9 * b + k)
  · rw [if_pos h, decide_eq_true h]; rfl
  · rw [if_neg h, decide_eq_false h]; rfl
def dfN (w : Wd) (a b k : Nat) : Nat := (bxI w a k - bxI w b k).natAbs
def jnl (w : Wd) (a b : Nat) : Bool := ofB w (dfN w a b (1 - wy w a) % wdN w a) (wdN w a)
def jn (w : Wd) (a b : Nat) : Bool := alk w a b 2 && (alk w a b 4 && (alk w a b 6 && (alk w a b 7 && ((decide (0 ≤ ybI w a b (wy w a)) && decide (ybI w a b (wy w a) ≤ gpN w)) && (decide (ybI w a b (1 - wy w a) < 0) && jnl w a b)))))
theorem tI_abs {x : Int} (h : smI x) : jabs (tI x) = nI x.natAbs := by
  unfold jabs
  rw [← tI_nI]
  simp only [show (0 : Int32) = tI 0 from rfl, tI_le (x := 0) (y := x) (by unfold smI; omega) h, tI_sb]
  split
  · congr 1; omega
  · congr 1; omega
theorem e_inline {w : Wd} (h : Rel w) {a b : Nat} (ha : a < 8) (hb : b < 8) (ta : bt (w.1 5 0) a = true) (tb : bt (w.1 5 0) b = true) : f_X1_areInLine (nI a) (nI b) w = some (b2i (jnl w a b), w) := by
  obtain ⟨y1, ey, -, -⟩ := h.bun ha ta
  obtain ⟨ew, w1, w2⟩ := h.wid ha ta
  have a1 := h.bxb (t := a) (by omega) ta (k := 1 - wy w a) (by omega)
  have b1 := h.bxb (t := b) (by omega) tb (k := 1 - wy w a) (by omega)
  unfold f_X1_areInLine
  rw [show f_X0_part (nI a) 2 w = _ from e_part (k := 2) ha (by decide) w, Option.bind_some]
  dsimp only
  rw [ey, show (1 : Int32) - nI (wy w a) = nI (1 - wy w a) from pk_sub (a := 1) y1, e_begins (by omega) (by omega), Option.bind_some]
  dsimp only
  rw [e_begins (by omega) (by omega), Option.bind_some]
  dsimp only
  rw [show f_X0_part (nI a) 4 w = _ from e_part (k := 4) ha (by decide) w, Option.bind_some]
  dsimp only
  have sm : smI (bxI w a (1 - wy w a) - bxI w b (1 - wy w a)) := by unfold smI; omega
  have dn : dfN w a b (1 - wy w a) ≤ 999 := by unfold dfN; omega
  have dm : dfN w a b (1 - wy w a) % wdN w a ≤ 20 := Nat.le_of_lt (Nat.lt_of_lt_of_le (Nat.mod_lt _ (by omega)) w2)
  rw [tI_sb, tI_abs sm, ew, e_rem (by omega) w1 (by omega), Option.bind_some]
  dsimp only
  rw [show (bxI w a (1 - wy w a) - bxI w b (1 - wy w a)).natAbs = dfN w a b (1 - wy w a) from rfl, e_wouldDo h (by omega) (by omega), Option.bind_some]
  dsimp only
  rw [b2i_bo, if_pos rfl]
  rfl
theorem e_joined {w : Wd} (h : Rel w) {a b : Nat} (ha : a < 8) (hb : b < 8) (ta : bt (w.1 5 0) a = true) (tb : bt (w.1 5 0) b = true) : f_X1_areJoined (nI a) (nI b) w = some (b2i (jn w a b), w) := by
  obtain ⟨y1, ey, -, -⟩ := h.bun ha ta
  obtain ⟨eg, lg⟩ := h.gpk
  unfold f_X1_areJoined jn
  rw [show f_X0_part (nI a) 2 w = _ from e_part (k := 2) ha (by decide) w, Option.bind_some]
  dsimp only
  rw [show f_X1_areAlike (nI a) (nI b) 2 w = _ from e_alk (k := 2) ha hb (by decide) w, Option.bind_some]
  dsimp only
  cases alk w a b 2 with
  | false => rw [if_pos bz]; rfl
  | true =>
    rw [if_neg bnz, Bool.true_and, show f_X1_areAlike (nI a) (nI b) 4 w = _ from e_alk (k := 4) ha hb (by decide) w, Option.bind_some]
    dsimp only
    cases alk w a b 4 with
    | false => rw [if_pos bz]; rfl
    | true =>
      rw [if_neg bnz, Bool.true_and, show f_X1_areAlike (nI a) (nI b) 6 w = _ from e_alk (k := 6) ha hb (by decide) w, Option.bind_some]
      dsimp only
      cases alk w a b 6 with
      | false => rw [if_pos bz]; rfl
      | true =>
        rw [if_neg bnz, Bool.true_and, show f_X1_areAlike (nI a) (nI b) 7 w = _ from e_alk (k := 7) ha hb (by decide) w, Option.bind_some]
        dsimp only
        cases alk w a b 7 with
        | false => rw [if_pos bz]; rfl
        | true =>
          have s1 := yb_b h (a := a) (b := b) (k := wy w a) (by omega) (by omega) ta tb (by omega)
          have s2 := yb_b h (a := a) (b := b) (k := 1 - wy w a) (by omega) (by omega) ta tb (by omega)
          rw [if_neg bnz, Bool.true_and, ey, e_yb h (by omega) (by omega) ta tb (by omega), Option.bind_some]
          dsimp only
          rw [e_within, Option.bind_some]
          dsimp only
          rw [eg]
          have ew : wi (tI (ybI w a b (wy w a))) 0 (nI (gpN w)) = (decide (0 ≤ ybI w a b (wy w a)) && decide (ybI w a b (wy w a) ≤ gpN w)) := by
            unfold wi
            rw [← tI_nI]
            congr 1
            · rw [decide_eq_decide, show (0 : Int32) = tI 0 from rfl, tI_le (by unfold smI; omega) s1]
            · rw [decide_eq_decide, tI_le s1 (by unfold smI; omega)]
          rw [ew]
          cases (decide (0 ≤ ybI w a b (wy w a)) && decide (ybI w a b (wy w a) ≤ gpN w)) with
          | false => rw [if_pos bz]; rfl
          | true =>
            rw [if_neg bnz, Bool.true_and, show (1 : Int32) - nI (wy w a) = nI (1 - wy w a) from pk_sub (a := 1) y1, e_yb h (by omega) (by omega) ta tb (by omega), Option.bind_some]
            dsimp only
            simp only [show ((0 : Int32) ≤ tI (ybI w a b (1 - wy w a))) = (0 ≤ ybI w a b (1 - wy w a)) from tI_le (x := 0) (by unfold smI; omega) s2]
            by_cases c : 0 ≤ ybI w a b (1 - wy w a)
            · rw [if_pos c, decide_eq_false (by omega)]; rfl
            · rw [if_neg c, decide_eq_true (show ybI w a b (1 - wy w a) < 0 by omega), Bool.true_and, e_inline h ha hb ta tb, Option.bind_some]
              dsimp only
              cases jnl w a b <;> rfl
/-- the reference's words -/
theorem m_beginOf {w : Wd} (h : Rel w) {b : Nat} (hb : b < 8) (tb : bt (w.1 5 0) b = true) : f_X10_beginOf (nI b) w = some (tI (bxI w b (wy w b)), w) := by
  obtain ⟨y1, ey, -, -⟩ := h.bun hb tb
  obtain ⟨x0, x1, -, -⟩ := h.box (t := b) (by omega)
  unfold f_X10_beginOf
  rw [show f_X10_of (nI b) 0 w = _ from m_of (k := 0) hb (by decide) w, Option.bind_some]
  dsimp only
  rw [h.of hb (by decide), show 9 * b + (0 + 2) = 9 * b + 2 by omega, ey, inB_nI (by omega) (by decide), if_pos rfl, if_pos rfl, ix_nI (by omega), x0, x1]
  rcases (by omega : wy w b = 0 ∨ wy w b = 1) with q | q <;> rw [q]
  · rw [if_pos (show nI 0 = 0 from rfl), ← bxI_t]; rfl
  · rw [if_neg (by decide), ← bxI_t]
theorem m_sideOf {w : Wd} (h : Rel w) {b : Nat} (hb : b < 8) (tb : bt (w.1 5 0) b = true) : f_X10_sideOf (nI b) w = some (tI (bxI w b (1 - wy w b)), w) := by
  obtain ⟨y1, ey, -, -⟩ := h.bun hb tb
  obtain ⟨x0, x1, -, -⟩ := h.box (t := b) (by omega)
  unfold f_X10_sideOf
  rw [show f_X10_of (nI b) 0 w = _ from m_of (k := 0) hb (by decide) w, Option.bind_some]
  dsimp only
  rw [h.of hb (by decide), show 9 * b + (0 + 2) = 9 * b + 2 by omega, ey, inB_nI (by omega) (by decide), if_pos rfl, if_pos rfl, ix_nI (by omega), x0, x1]
  rcases (by omega : wy w b = 0 ∨ wy w b = 1) with q | q <;> rw [q]
  · rw [if_pos (show nI 0 = 0 from rfl), ← bxI_t]
  · rw [if_neg (by decide), ← bxI_t]; rfl
theorem m_broadOf {w : Wd} (h : Rel w) {b : Nat} (hb : b < 8) (tb : bt (w.1 5 0) b = true) : f_X10_broadOf (nI b) w = some (tI (bxI w b (3 - wy w b)), w) := by
  obtain ⟨-, -, -, e⟩ := h.bun hb tb
  unfold f_X10_broadOf
  rw [show f_X10_of (nI b) 1 w = _ from m_of (k := 1) hb (by decide) w, Option.bind_some]
  dsimp only
  rw [show f_X10_of (nI b) 2 w = _ from m_of (k := 2) hb (by decide) w, Option.bind_some, h.of hb (by decide), h.of hb (by decide)]
  dsimp only
  rw [show 9 * b + (1 + 2) = 9 * b + 3 by omega, show 9 * b + (2 + 2) = 9 * b + 4 by omega, e]
theorem m_long {w : Wd} (h : Rel w) {b : Nat} (hb : b < 8) (tb : bt (w.1 5 0) b = true) : f_X10_of (nI b) 3 w = some (tI (bxI w b (2 + wy w b)), w) := by
  obtain ⟨-, -, e, -⟩ := h.bun hb tb
  rw [show f_X10_of (nI b) 3 w = _ from m_of (k := 3) hb (by decide) w, h.of hb (by decide), show 9 * b + (3 + 2) = 9 * b + 5 by omega, e]
def btI (w : Wd) (a b : Nat) : Int := bxI w b (wy w b) - bxI w a (wy w a) - bxI w a (2 + wy w a)
theorem m_between {w : Wd} (h : Rel w) {a b : Nat} (ha : a < 8) (hb : b < 8) (ta : bt (w.1 5 0) a = true) (tb : bt (w.1 5 0) b = true) : f_X10_between (nI a) (nI b) w = some (tI (btI w a b), w) := by
  unfold f_X10_between btI
  rw [m_beginOf h hb tb, Option.bind_some]
  dsimp only
  rw [m_beginOf h ha ta, Option.bind_some]
  dsimp only
  rw [m_long h ha ta, Option.bind_some]
  dsimp only
  rw [tI_sb, tI_sb]
theorem bt_b {w : Wd} (h : Rel w) {a b : Nat} (ha : a < 8) (hb : b < 8) (ta : bt (w.1 5 0) a = true) (tb : bt (w.1 5 0) b = true) : smI (btI w a b) ∧ -3000 ≤ btI w a b ∧ btI w a b ≤ 3000 := by
  obtain ⟨ya, -⟩ := h.bun ha ta
  obtain ⟨yb, -⟩ := h.bun hb tb
  have a1 := h.bxb (t := a) (by omega) ta (k := wy w a) (by omega)
  have a2 := h.bxb (t := a) (by omega) ta (k := 2 + wy w a) (by omega)
  have b1 := h.bxb (t := b) (by omega) tb (k := wy w b) (by omega)
  unfold btI smI
  omega
def behB (w : Wd) (a b : Nat) : Bool := decide (0 ≤ btI w a b) && decide (btI w a b ≤ gpN w)
def besB (w : Wd) (a b : Nat) : Bool := decide (bxI w a (1 - wy w a) < bxI w b (1 - wy w b) + bxI w b (3 - wy w b)) && decide (bxI w b (1 - wy w b) < bxI w a (1 - wy w a) + bxI w a (3 - wy w a))
def mofB (w : Wd) (a b : Nat) : Bool := ofB w ((bxI w a (1 - wy w a) - bxI w b (1 - wy w b)).natAbs % wdN w a) (wdN w a)
theorem m_join_190 {w : Wd} (h : Rel w) {a : Nat} (ha : a < 8) (ta : bt (w.1 5 0) a = true) {d : Nat} (hd : d ≤ 1000) (p q r : Bool) : f_X10_areJoined_190 (nI d) (nI a) (b2i p) (b2i q) (b2i r) w = some (b2i (p && (q && (r && ofB w (d % wdN w a) (wdN w a)))), w) := by
  obtain ⟨ew, w1, w2⟩ := h.wid ha ta
  have dm : d % wdN w a ≤ 20 := Nat.le_of_lt (Nat.lt_of_lt_of_le (Nat.mod_lt _ (by omega)) w2)
  unfold f_X10_areJoined_190
  cases p with
  | false => rw [if_pos bz]; rfl
  | true =>
    rw [if_neg bnz]
    cases q with
    | false => rw [if_pos bz]; rfl
    | true =>
      rw [if_neg bnz]
      cases r with
      | false => rw [if_pos bz]; rfl
      | true =>
        rw [if_neg bnz, show f_X10_of (nI a) 2 w = _ from m_of (k := 2) ha (by decide) w, Option.bind_some]
        dsimp only
        rw [h.of ha (by decide), show 9 * a + (2 + 2) = 9 * a + 4 by omega, ew, if_neg (nI_ne0 (by omega) (by omega)), show f_X10_of (nI a) 2 w = _ from m_of (k := 2) ha (by decide) w, Option.bind_some]
        dsimp only
        rw [h.of ha (by decide), show 9 * a + (2 + 2) = 9 * a + 4 by omega, ew, show jrem (nI d) (nI (wdN w a)) = nI (d % wdN w a) from pk_rem (by omega) (by omega) (by omega), m_isOff h (by omega) (by omega), Option.bind_some]
        dsimp only
        cases ofB w (d % wdN w a) (wdN w a) <;> rfl
theorem m_join_150 {w : Wd} (h : Rel w) {a b : Nat} (ha : a < 8) (hb : b < 8) (ta : bt (w.1 5 0) a = true) (tb : bt (w.1 5 0) b = true) (p q r : Bool) : f_X10_areJoined_150 (b2i r) (nI a) (nI b) (b2i p) (b2i q) w = some (b2i (p && (q && (r && mofB w a b))), w) := by
  obtain ⟨ya, -⟩ := h.bun ha ta
  obtain ⟨yb, -⟩ := h.bun hb tb
  have a1 := h.bxb (t := a) (by omega) ta (k := 1 - wy w a) (by omega)
  have b1 := h.bxb (t := b) (by omega) tb (k := 1 - wy w b) (by omega)
  unfold f_X10_areJoined_150 mofB
  have sa := m_sideOf h ha ta
  have sb := m_sideOf h hb tb
  rw [sa, Option.bind_some]
  dsimp only
  rw [sb, Option.bind_some]
  dsimp only
  rw [sa, sb, Option.bind_some, Option.bind_some]
  dsimp only
  rw [sa, sb, Option.bind_some, Option.bind_some]
  dsimp only
  rw [tI_sb, tI_sb]
  simp only [tI_le (x := bxI w a (1 - wy w a)) (y := bxI w b (1 - wy w b)) (by unfold smI; omega) (by unfold smI; omega)]
  by_cases c : bxI w a (1 - wy w a) ≤ bxI w b (1 - wy w b)
  · rw [if_pos c, show bxI w b (1 - wy w b) - bxI w a (1 - wy w a) = (((bxI w a (1 - wy w a) - bxI w b (1 - wy w b)).natAbs : Nat) : Int) by omega, tI_nI]
    exact m_join_190 h ha ta (by omega) p q r
  · rw [if_neg c, show bxI w a (1 - wy w a) - bxI w b (1 - wy w b) = (((bxI w a (1 - wy w a) - bxI w b (1 - wy w b)).natAbs : Nat) : Int) by omega, tI_nI]
    exact m_join_190 h ha ta (by omega) p q r
theorem m_join_105 {w : Wd} (h : Rel w) {a b : Nat} (ha : a < 8) (hb : b < 8) (ta : bt (w.1 5 0) a = true) (tb : bt (w.1 5 0) b = true) (p q : Bool) : f_X10_areJoined_105 (b2i q) (nI a) (nI b) (b2i p) w = some (b2i (p && (q && (besB w a b && mofB w a b))), w) := by
  obtain ⟨ya, -⟩ := h.bun ha ta
  obtain ⟨yb, -⟩ := h.bun hb tb
  have a1 := h.bxb (t := a) (by omega) ta (k := 1 - wy w a) (by omega)
  have b1 := h.bxb (t := b) (by omega) tb (k := 1 - wy w b) (by omega)
  have a2 := h.bxb (t := a) (by omega) ta (k := 3 - wy w a) (by omega)
  have b2 := h.bxb (t := b) (by omega) tb (k := 3 - wy w b) (by omega)
  unfold f_X10_areJoined_105 f_X10_areJoined_149 besB
  rw [m_sideOf h ha ta, Option.bind_some]
  dsimp only
  rw [m_sideOf h hb tb, Option.bind_some]
  dsimp only
  rw [m_broadOf h hb tb, Option.bind_some]
  dsimp only
  rw [m_sideOf h hb tb, Option.bind_some]
  dsimp only
  rw [m_sideOf h ha ta, Option.bind_some]
  dsimp only
  rw [m_broadOf h ha ta, Option.bind_some]
  dsimp only
  rw [tI_add, tI_add]
  simp only [tI_le (x := bxI w b (1 - wy w b) + bxI w b (3 - wy w b)) (y := bxI w a (1 - wy w a)) (by unfold smI; omega) (by unfold smI; omega), tI_le (x := bxI w a (1 - wy w a) + bxI w a (3 - wy w a)) (y := bxI w b (1 - wy w b)) (by unfold smI; omega) (by unfold smI; omega)]
  by_cases c1 : bxI w b (1 - wy w b) + bxI w b (3 - wy w b) ≤ bxI w a (1 - wy w a)
  · rw [if_pos c1, decide_eq_false (show ¬ bxI w a (1 - wy w a) < bxI w b (1 - wy w b) + bxI w b (3 - wy w b) by omega), Bool.false_and]
    exact m_join_150 h ha hb ta tb p q false
  · rw [if_neg c1, decide_eq_true (show bxI w a (1 - wy w a) < bxI w b (1 - wy w b) + bxI w b (3 - wy w b) by omega), Bool.true_and]
    by_cases c2 : bxI w a (1 - wy w a) + bxI w a (3 - wy w a) ≤ bxI w b (1 - wy w b)
    · rw [if_pos c2, decide_eq_false (show ¬ bxI w b (1 - wy w b) < bxI w a (1 - wy w a) + bxI w a (3 - wy w a) by omega)]
      exact m_join_150 h ha hb ta tb p q false
    · rw [if_neg c2, decide_eq_true (show bxI w b (1 - wy w b) < bxI w a (1 - wy w a) + bxI w a (3 - wy w a) by omega)]
      exact m_join_150 h ha hb ta tb p q true
theorem wi_tI {x : Int} {g : Nat} (hx : smI x) (hg : g ≤ 1000) : wi (tI x) 0 (nI g) = (decide (0 ≤ x) && decide (x ≤ g)) := by
  unfold wi
  rw [← tI_nI]
  congr 1
  · rw [decide_eq_decide, show (0 : Int32) = tI 0 from rfl, tI_le (by unfold smI; omega) hx]
  · rw [decide_eq_decide, tI_le hx (by unfold smI; omega)]
theorem m_join_65 {w : Wd} (h : Rel w) {a b : Nat} (ha : a < 8) (hb : b < 8) (ta : bt (w.1 5 0) a = true) (tb : bt (w.1 5 0) b = true) (p : Bool) : f_X10_areJoined_65 (b2i p) (nI a) (nI b) w = some (b2i (p && ((behB w a b || behB w b a) && (besB w a b && mofB w a b))), w) := by
  obtain ⟨eg, lg⟩ := h.gpk
  have e33 : w.1 33 14 = w.1 5 10 := h.e.2.2.2.2.1
  unfold f_X10_areJoined_65 f_X10_areJoined_100
  rw [m_between h ha hb ta tb, Option.bind_some]
  dsimp only
  rw [e_in, Option.bind_some, e33, eg, wi_tI (bt_b h ha hb ta tb).1 (by omega)]
  dsimp only
  rw [show (decide (0 ≤ btI w a b) && decide (btI w a b ≤ gpN w)) = behB w a b from rfl]
  cases behB w a b with
  | true =>
    rw [if_neg bnz]
    exact m_join_105 h ha hb ta tb p true
  | false =>
    rw [if_pos bz, m_between h hb ha tb ta, Option.bind_some]
    dsimp only
    rw [e_in, Option.bind_some, e33, eg, wi_tI (bt_b h hb ha tb ta).1 (by omega)]
    dsimp only
    rw [show (decide (0 ≤ btI w b a) && decide (btI w b a ≤ gpN w)) = behB w b a from rfl]
    cases behB w b a with
    | true =>
      rw [if_neg bnz]
      exact m_join_105 h ha hb ta tb p true
    | false =>
      rw [if_pos bz]
      exact m_join_105 h ha hb ta tb p false
theorem jn_eq {w : Wd} (h : Rel w) {a b : Nat} (ha : a < 8) (hb : b < 8) (ta : bt (w.1 5 0) a = true) (tb : bt (w.1 5 0) b = true) (hw : wy w a = wy w b) : ((decide (0 ≤ ybI w a b (wy w a)) && decide (ybI w a b (wy w a) ≤ gpN w)) && (decide (ybI w a b (1 - wy w a) < 0) && jnl w a b)) = ((behB w a b || behB w b a) && (besB w a b && mofB w a b)) := by
  obtain ⟨ya, -⟩ := h.bun ha ta
  have a1 := h.bxb (t := a) (by omega) ta (k := wy w a) (by omega)
  have b1 := h.bxb (t := b) (by omega) tb (k := wy w a) (by omega)
  have a2 := h.bxb (t := a) (by omega) ta (k := 2 + wy w a) (by omega)
  have b2 := h.bxb (t := b) (by omega) tb (k := 2 + wy w a) (by omega)
  have a3 := h.bxb (t := a) (by omega) ta (k := 1 - wy w a) (by omega)
  have b3 := h.bxb (t := b) (by omega) tb (k := 1 - wy w a) (by omega)
  have a4 := h.bxb (t := a) (by omega) ta (k := 3 - wy w a) (by omega)
  have b4 := h.bxb (t := b) (by omega) tb (k := 3 - wy w a) (by omega)
  have a5 := a2.2 (by omega)
  have b5 := b2.2 (by omega)
  have a6 := a4.2 (by omega)
  have b6 := b4.2 (by omega)
  have e1 : (decide (0 ≤ ybI w a b (wy w a)) && decide (ybI w a b (wy w a) ≤ gpN w)) = (behB w a b || behB w b a) := by
    rw [Bool.eq_iff_iff]
    unfold behB btI ybI mxI mnI
    rw [← hw]
    simp only [Bool.and_eq_true, Bool.or_eq_true, decide_eq_true_eq]
    split <;> split <;> omega
  have e2 : decide (ybI w a b (1 - wy w a) < 0) = besB w a b := by
    rw [Bool.eq_iff_iff]
    unfold besB ybI mxI mnI
    rw [← hw, show 2 + (1 - wy w a) = 3 - wy w a by omega]
    simp only [Bool.and_eq_true, decide_eq_true_eq]
    split <;> split <;> omega
  rw [e1, e2]
  unfold jnl mofB dfN
  rw [← hw]
theorem m_joined {w : Wd} (h : Rel w) {a b : Nat} (ha : a < 8) (hb : b < 8) (ta : bt (w.1 5 0) a = true) (tb : bt (w.1 5 0) b = true) : f_X10_areJoined (nI a) (nI b) w = some (b2i (jn w a b), w) := by
  unfold f_X10_areJoined f_X10_areJoined_64
  have o : ∀ {c k : Nat}, c < 8 → k < 7 → f_X10_of (nI c) (nI k) w = some (w.1 6 (9 * c + (k + 2)), w) := fun hc hk => by rw [m_of hc hk, h.of hc hk]
  have no : f_X10_areJoined_65 0 (nI a) (nI b) w = some (0, w) := m_join_65 h ha hb ta tb false
  rw [show f_X10_of (nI a) 0 w = _ from o (k := 0) ha (by decide), Option.bind_some]
  dsimp only
  rw [show f_X10_of (nI b) 0 w = _ from o (k := 0) hb (by decide), Option.bind_some]
  dsimp only
  unfold jn alk
  by_cases c1 : w.1 6 (9 * a + (0 + 2)) = w.1 6 (9 * b + (0 + 2))
  · rw [if_pos c1, decide_eq_true (show w.1 6 (9 * a + 2) = w.1 6 (9 * b + 2) from c1), Bool.true_and, show f_X10_of (nI a) 2 w = _ from o (k := 2) ha (by decide), Option.bind_some]
    dsimp only
    rw [show f_X10_of (nI b) 2 w = _ from o (k := 2) hb (by decide), Option.bind_some]
    dsimp only
    by_cases c2 : w.1 6 (9 * a + (2 + 2)) = w.1 6 (9 * b + (2 + 2))
    · rw [if_pos c2, decide_eq_true (show w.1 6 (9 * a + 4) = w.1 6 (9 * b + 4) from c2), Bool.true_and, show f_X10_of (nI a) 4 w = _ from o (k := 4) ha (by decide), Option.bind_some]
      dsimp only
      rw [show f_X10_of (nI b) 4 w = _ from o (k := 4) hb (by decide), Option.bind_some]
      dsimp only
      by_cases c3 : w.1 6 (9 * a + (4 + 2)) = w.1 6 (9 * b + (4 + 2))
      · rw [if_pos c3, decide_eq_true (show w.1 6 (9 * a + 6) = w.1 6 (9 * b + 6) from c3), Bool.true_and, show f_X10_of (nI a) 5 w = _ from o (k := 5) ha (by decide), Option.bind_some]
        dsimp only
        rw [show f_X10_of (nI b) 5 w = _ from o (k := 5) hb (by decide), Option.bind_some]
        dsimp only
        by_cases c4 : w.1 6 (9 * a + (5 + 2)) = w.1 6 (9 * b + (5 + 2))
        · rw [if_pos c4, decide_eq_true (show w.1 6 (9 * a + 7) = w.1 6 (9 * b + 7) from c4), Bool.true_and]
          have hw : wy w a = wy w b := by unfold wy; rw [show w.1 6 (9 * a + 2) = w.1 6 (9 * b + 2) from c1]
          rw [jn_eq h ha hb ta tb hw]
          exact m_join_65 h ha hb ta tb true
        · rw [if_neg c4, decide_eq_false (show ¬ w.1 6 (9 * a + 7) = w.1 6 (9 * b + 7) from c4), Bool.false_and]
          exact no
      · rw [if_neg c3, decide_eq_false (show ¬ w.1 6 (9 * a + 6) = w.1 6 (9 * b + 6) from c3), Bool.false_and]
        exact no
    · rw [if_neg c2, decide_eq_false (show ¬ w.1 6 (9 * a + 4) = w.1 6 (9 * b + 4) from c2), Bool.false_and]
      exact no
  · rw [if_neg c1, decide_eq_false (show ¬ w.1 6 (9 * a + 2) = w.1 6 (9 * b + 2) from c1), Bool.false_and]
    exact no
theorem jn_sim {w v : Wd} (s : sim w v) : jn v = jn w := by
  funext a b
  have r : ∀ k, (∀ j, sc k j = false) → v.1 k = w.1 k := fun k hk => s.row k hk
  unfold jn jnl dfN alk ofB ybI bxI wy wdN slN gpN
  rw [r 5 (fun _ => rfl), r 6 (fun _ => rfl), r 7 (fun _ => rfl)]
/-- two bundles -/
def twB (w : Wd) (p q : Int32) : Bool := isT 7 (w.1 5 0) p && (isT 7 (w.1 5 0) q && decide (p ≠ q))
theorem e_isPair (p q : Int32) (w : Wd) : f_X9_isPair p q w = some (b2i (twB w p q), w) := by
  unfold f_X9_isPair twB
  by_cases h : p = q
  · rw [if_pos h, decide_eq_false (fun z => z h), Bool.and_false, Bool.and_false]; rfl
  · rw [if_neg h, decide_eq_true h, Bool.and_true, e_isBundle, Option.bind_some]
    dsimp only
    cases isT 7 (w.1 5 0) p with
    | false => rw [if_pos bz]; rfl
    | true =>
      rw [if_neg bnz, e_isBundle, Option.bind_some]
      dsimp only
      cases isT 7 (w.1 5 0) q <;> rfl
theorem m_areTwo {w : Wd} (ht : w.1 33 0 = w.1 5 0) (p q : Int32) : f_X10_areTwo p q w = some (b2i (twB w p q), w) := by
  unfold f_X10_areTwo twB
  rw [m_isBundle, Option.bind_some, ht]
  dsimp only
  cases isT 7 (w.1 5 0) p with
  | false => rw [if_pos bz]; rfl
  | true =>
    rw [if_neg bnz, m_isBundle, Option.bind_some, ht]
    dsimp only
    cases isT 7 (w.1 5 0) q with
    | false => rw [if_pos bz]; rfl
    | true =>
      rw [if_neg bnz]
      by_cases h : p = q
      · rw [if_pos h, decide_eq_false (fun z => z h)]; rfl
      · rw [if_neg h, decide_eq_true h]; rfl
theorem twB_nI {w : Wd} {p q : Int32} (h : twB w p q = true) : ∃ a b : Nat, a < 8 ∧ b < 8 ∧ p = nI a ∧ q = nI b ∧ bt (w.1 5 0) a = true ∧ bt (w.1 5 0) b = true ∧ a ≠ b := by
  unfold twB at h
  rw [Bool.and_eq_true, Bool.and_eq_true, decide_eq_true_eq] at h
  obtain ⟨a, ha, ea, ta⟩ := isT_nI (n := 7) (by decide) h.1
  obtain ⟨b, hb, eb, tb⟩ := isT_nI (n := 7) (by decide) h.2.1
  exact ⟨a, b, by omega, by omega, ea, eb, ta, tb, fun z => h.2.2 (by rw [ea, eb, z])⟩
theorem op_joined (p q : Int32) {w : Wd} (h : Rel w) : Agree (f_X9_joined p q) (f_X10_joined p q) w := by
  unfold Agree f_X9_joined f_X10_joined
  rw [e_isPair, Option.bind_some]
  dsimp only
  cases ht : twB w p q with
  | false =>
    refine ⟨-2, w, w, by rw [if_pos bz], ?_, h⟩
    rw [m_areTwo h.told, Option.bind_some, ht]; rfl
  | true =>
    obtain ⟨a, b, ha, hb, rfl, rfl, ta, tb, -⟩ := twB_nI ht
    refine ⟨b2i (jn w a b), w, w, ?_, ?_, h⟩
    · rw [if_neg bnz, e_joined h ha hb ta tb, Option.bind_some]
      dsimp only
      rw [e_oneIf, Option.bind_some]
    · rw [m_areTwo h.told, Option.bind_some, ht, if_neg bnz, m_joined h ha hb ta tb, Option.bind_some]
      dsimp only
      cases jn w a b <;> rfl
