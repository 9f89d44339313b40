/-! later -/
def cvB (w : Wd) (m k : Nat) (f t : Int) : Bool := decide (mxI (bxI w m k) f < mnI (bxI w m k + bxI w m (2 + k)) t)
def s4 (x : Int) : Prop := -10000 ≤ x ∧ x ≤ 10000
theorem mx_s4 {a b : Int} (ha : s4 a) (hb : s4 b) : s4 (mxI a b) := by unfold mxI; split <;> assumption
theorem mn_s4 {a b : Int} (ha : s4 a) (hb : s4 b) : s4 (mnI a b) := by unfold mnI; split <;> assumption
theorem s4_sm {a : Int} (h : s4 a) : smI a := by unfold s4 at h; unfold smI; omega
theorem e_covers {w : Wd} (h : Rel w) {m k : Nat} (hm : m < 14) (tm : bt (w.1 5 0) m = true) (hk : k < 2) {f t : Int} (hf : s4 f) (ht : s4 t) : f_X1_coversSome (nI m) (nI k) (tI f) (tI t) w = some (b2i (cvB w m k f t), w) := by
  have a1 := h.bxb hm tm (k := k) (by omega)
  have a2 := h.bxb hm tm (k := 2 + k) (by omega)
  have q1 : s4 (bxI w m k) := by unfold s4; omega
  have q2 : s4 (bxI w m k + bxI w m (2 + k)) := by unfold s4; omega
  unfold f_X1_coversSome cvB
  rw [e_begins hm (by omega), Option.bind_some]
  dsimp only
  rw [e_ends hm hk, Option.bind_some]
  dsimp only
  rw [tI_mx2 q1 hf, tI_mn2 q2 ht]
  simp only [tI_le (s4_sm (mn_s4 q2 ht)) (s4_sm (mx_s4 q1 hf))]
  by_cases c : mnI (bxI w m k + bxI w m (2 + k)) t ≤ mxI (bxI w m k) f
  · rw [if_pos c, decide_eq_false (by omega)]; rfl
  · rw [if_neg c, decide_eq_true (by omega)]; rfl
def mkB (w : Wd) (y : Nat) (f t l g : Int) (m : Nat) : Bool := bt (w.1 5 0) m && (cvB w m y f t && cvB w m (1 - y) l g)
theorem e_marks_118 {w : Wd} (h : Rel w) {y : Nat} (hy : y ≤ 1) {f t l g : Int} (hf : s4 f) (ht : s4 t) (hl : s4 l) (hg : s4 g) : ∀ (n i : Nat), i ≤ 6 → 6 - i < n → f_X1_marksBetween_118 n (nI y) (nI (1 - y)) (tI f) (tI t) (tI l) (tI g) (orS (mkB w y f t l g) 8 i) (nI (8 + i)) w = some (orS (mkB w y f t l g) 8 6, w) := by
  intro n
  induction n with
  | zero => intro i _ h; omega
  | succ n ih =>
    intro i hi hn
    rw [f_X1_marksBetween_118]
    by_cases h6 : i = 6
    · subst h6
      rw [if_pos (by decide)]
    · have i1 := ih (i + 1) (by omega) (by omega)
      rw [← Nat.add_assoc] at i1
      have no : mkB w y f t l g (8 + i) = false → f_X1_marksBetween_118 n (nI y) (nI (1 - y)) (tI f) (tI t) (tI l) (tI g) (orS (mkB w y f t l g) 8 i) (nI (8 + i + 1)) w = some (orS (mkB w y f t l g) 8 6, w) := by
        intro e
        rw [orS_f e] at i1
        exact i1
      rw [if_neg (n14 (by omega)), e_isThing, Option.bind_some]
      dsimp only
      rw [show isT 13 (w.1 5 0) (nI (8 + i)) = bt (w.1 5 0) (8 + i) from nI_isT (n := 13) (by omega) (by decide), p1]
      cases hb : bt (w.1 5 0) (8 + i) with
      | false =>
        rw [if_pos bz]
        exact no (by unfold mkB; rw [hb, Bool.false_and])
      | true =>
        rw [if_neg bnz, e_covers h (by omega) hb (by omega) hf ht, Option.bind_some]
        dsimp only
        cases hc : cvB w (8 + i) y f t with
        | false =>
          rw [if_pos bz]
          exact no (by unfold mkB; rw [hc, Bool.false_and, Bool.and_false])
        | true =>
          rw [if_neg bnz, e_covers h (by omega) hb (by omega) hl hg, Option.bind_some]
          dsimp only
          cases hd : cvB w (8 + i) (1 - y) l g with
          | false =>
            rw [if_pos bz]
            exact no (by unfold mkB; rw [hd, Bool.and_false, Bool.and_false])
          | true =>
            rw [if_neg bnz]
            rw [orS_t (show mkB w y f t l g (8 + i) = true by unfold mkB; rw [hb, hc, hd]; rfl)] at i1
            exact i1
def lfr (w : Wd) (a b : Nat) : Int := mnI (bxI w a (wy w a) + bxI w a (2 + wy w a)) (bxI w b (wy w a) + bxI w b (2 + wy w a))
def lto (w : Wd) (a b : Nat) : Int := mxI (bxI w a (wy w a)) (bxI w b (wy w a))
def lle (w : Wd) (a b : Nat) : Int := mnI (bxI w a (1 - wy w a)) (bxI w b (1 - wy w a))
def lgr (w : Wd) (a b : Nat) : Int := mxI (bxI w a (1 - wy w a) + bxI w a (2 + (1 - wy w a))) (bxI w b (1 - wy w a) + bxI w b (2 + (1 - wy w a)))
def ltX (w : Wd) (a b : Nat) : Int32 := orS (mkB w (wy w a) (lfr w a b) (lto w a b) (lle w a b) (lgr w a b)) 8 6
theorem bxs4 {w : Wd} (h : Rel w) {t : Nat} (ht : t < 14) (hb : bt (w.1 5 0) t = true) {k : Nat} (hk : k < 4) : s4 (bxI w t k) := by
  have := h.bxb ht hb hk
  unfold s4; omega
theorem bxs4' {w : Wd} (h : Rel w) {t : Nat} (ht : t < 14) (hb : bt (w.1 5 0) t = true) {k j : Nat} (hk : k < 4) (hj : j < 4) : s4 (bxI w t k + bxI w t j) := by
  have := h.bxb ht hb hk
  have := h.bxb ht hb hj
  unfold s4; omega
theorem e_marks {w : Wd} (h : Rel w) {a b : Nat} (ha : a < 8) (hb : b < 8) (ta : bt (w.1 5 0) a = true) (tb : bt (w.1 5 0) b = true) : f_X1_marksBetween (nI a) (nI b) w = some (ltX w a b, w) := by
  obtain ⟨y1, ey, -, -⟩ := h.bun ha ta
  unfold f_X1_marksBetween
  rw [show f_X0_part (nI a) 2 w = _ from e_part (k := 2) ha (by decide) w, Option.bind_some]
  dsimp only
  rw [ey, show (1 : Int32) - nI (wy w a) = nI (1 - wy w a) from pk_sub (a := 1) y1]
  rw [e_ends (by omega) (by omega), Option.bind_some]
  dsimp only
  rw [e_ends (by omega) (by omega), Option.bind_some]
  dsimp only
  rw [e_begins (by omega) (by omega), Option.bind_some]
  dsimp only
  rw [e_begins (by omega) (by omega), Option.bind_some]
  dsimp only
  rw [e_begins (by omega) (by omega), Option.bind_some]
  dsimp only
  rw [e_begins (by omega) (by omega), Option.bind_some]
  dsimp only
  rw [e_ends (by omega) (by omega), Option.bind_some]
  dsimp only
  rw [e_ends (by omega) (by omega), Option.bind_some]
  dsimp only
  have a1 := bxs4 h (t := a) (by omega) ta (k := wy w a) (by omega)
  have a2 := bxs4 h (t := b) (by omega) tb (k := wy w a) (by omega)
  have a3 := bxs4 h (t := a) (by omega) ta (k := 1 - wy w a) (by omega)
  have a4 := bxs4 h (t := b) (by omega) tb (k := 1 - wy w a) (by omega)
  have b1 := bxs4' h (t := a) (by omega) ta (k := wy w a) (j := 2 + wy w a) (by omega) (by omega)
  have b2 := bxs4' h (t := b) (by omega) tb (k := wy w a) (j := 2 + wy w a) (by omega) (by omega)
  have b3 := bxs4' h (t := a) (by omega) ta (k := 1 - wy w a) (j := 2 + (1 - wy w a)) (by omega) (by omega)
  have b4 := bxs4' h (t := b) (by omega) tb (k := 1 - wy w a) (j := 2 + (1 - wy w a)) (by omega) (by omega)
  rw [tI_mn2 b1 b2, tI_mx2 a1 a2, tI_mn2 a3 a4, tI_mx2 b3 b4]
  exact e_marks_118 h y1 (mn_s4 b1 b2) (mx_s4 a1 a2) (mn_s4 a3 a4) (mx_s4 b3 b4) fu 0 (by decide) (by decide)
def mtB (x n b m : Int) : Bool := decide (x < b + m) && decide (b < x + n)
theorem m_meets {x n b m : Int} (hx : s4 x) (hn : s4 n) (hb : s4 b) (hm : s4 m) (w : Wd) : f_X10_meets (tI x) (tI n) (tI b) (tI m) w = some (b2i (mtB x n b m), w) := by
  unfold s4 at *
  unfold f_X10_meets mtB
  rw [tI_add, tI_add]
  simp only [tI_le (x := b + m) (y := x) (by unfold smI; omega) (by unfold smI; omega), tI_le (x := x + n) (y := b) (by unfold smI; omega) (by unfold smI; omega)]
  by_cases c1 : b + m ≤ x
  · rw [if_pos c1, decide_eq_false (by omega), Bool.false_and]; rfl
  · rw [if_neg c1, decide_eq_true (show x < b + m by omega), Bool.true_and]
    by_cases c2 : x + n ≤ b
    · rw [if_pos c2, decide_eq_false (by omega)]; rfl
    · rw [if_neg c2, decide_eq_true (by omega)]; rfl
def mmB (w : Wd) (y : Nat) (al far sd br : Int) (m : Nat) : Bool := bt (w.1 5 0) m && (decide (0 < far) && (mtB (bxI w m y) (bxI w m (2 + y)) al far && mtB (bxI w m (1 - y)) (bxI w m (3 - y)) sd br))
theorem Rel.bx4 {w : Wd} (h : Rel w) {t : Nat} (ht : t < 14) : w.1 35 t = tI (bxI w t 0) ∧ w.1 36 t = tI (bxI w t 1) ∧ w.1 37 t = tI (bxI w t 2) ∧ w.1 38 t = tI (bxI w t 3) := by
  obtain ⟨a, b, c, d⟩ := h.box ht
  rw [← bxI_t, ← bxI_t, ← bxI_t, ← bxI_t]
  exact ⟨a, b, c, d⟩
theorem m_later_154 {w : Wd} (h : Rel w) {a : Nat} (ha : a < 8) (ta : bt (w.1 5 0) a = true) {al far sd br : Int} (h1 : s4 al) (h2 : s4 far) (h3 : s4 sd) (h4 : s4 br) : ∀ (n i : Nat), i ≤ 6 → 6 - i < n → f_X10_later_154 n (nI a) (tI al) (tI far) (tI sd) (tI br) (orS (mmB w (wy w a) al far sd br) 8 i) (nI (8 + i)) w = some (orS (mmB w (wy w a) al far sd br) 8 6, w) := by
  obtain ⟨y1, ey, -, -⟩ := h.bun ha ta
  intro n
  induction n with
  | zero => intro i _ h; omega
  | succ n ih =>
    intro i hi hn
    rw [f_X10_later_154]
    by_cases h6 : i = 6
    · subst h6
      rw [if_pos (by decide)]
    · have i1 := ih (i + 1) (by omega) (by omega)
      rw [← Nat.add_assoc] at i1
      have no : mmB w (wy w a) al far sd br (8 + i) = false → f_X10_later_154 n (nI a) (tI al) (tI far) (tI sd) (tI br) (orS (mmB w (wy w a) al far sd br) 8 i) (nI (8 + i + 1)) w = some (orS (mmB w (wy w a) al far sd br) 8 6, w) := by
        intro e
        rw [orS_f e] at i1
        exact i1
      rw [if_neg (n14 (by omega)), m_isThing, Option.bind_some, h.told]
      dsimp only
      rw [show isT 13 (w.1 5 0) (nI (8 + i)) = bt (w.1 5 0) (8 + i) from nI_isT (n := 13) (by omega) (by decide)]
      cases hb : bt (w.1 5 0) (8 + i) with
      | false =>
        rw [if_pos bz, p1]
        exact no (by unfold mmB; rw [hb, Bool.false_and])
      | true =>
        rw [if_neg bnz]
        simp only [show (tI far ≤ 0) = (far ≤ 0) from tI_le (y := 0) (s4_sm h2) (by unfold smI; omega)]
        by_cases hf : far ≤ 0
        · rw [if_pos hf, p1]
          exact no (by unfold mmB; rw [decide_eq_false (show ¬ 0 < far by omega), Bool.false_and, Bool.and_false])
        · rw [if_neg hf, show f_X10_of (nI a) 0 w = _ from m_of (k := 0) ha (by decide) w, Option.bind_some]
          dsimp only
          rw [h.of ha (by decide), show 9 * a + (0 + 2) = 9 * a + 2 by omega, ey]
          obtain ⟨x0, x1, x2, x3⟩ := h.bx4 (t := 8 + i) (by omega)
          have s0 := bxs4 h (t := 8 + i) (by omega) hb (k := 0) (by omega)
          have s1 := bxs4 h (t := 8 + i) (by omega) hb (k := 1) (by omega)
          have s2 := bxs4 h (t := 8 + i) (by omega) hb (k := 2) (by omega)
          have s3 := bxs4 h (t := 8 + i) (by omega) hb (k := 3) (by omega)
          unfold f_X10_later_189 f_X10_later_304 f_X10_later_248 f_X10_later_305
          simp only [inB_nI (show 8 + i < 14 by omega) (show 14 < 2 ^ 31 by decide), ix_nI (show 8 + i < 2 ^ 31 by omega), if_true, x0, x1, x2, x3, or_0, p1, m_meets s0 s2 h1 h2, m_meets s1 s3 h3 h4, m_meets s1 s3 h1 h2, m_meets s0 s2 h3 h4, Option.bind_some]
          rcases (by omega : wy w a = 0 ∨ wy w a = 1) with q | q
          · rw [q] at i1 no ⊢
            rw [if_pos (show nI 0 = 0 from rfl), if_neg (by decide)]
            cases c1 : mtB (bxI w (8 + i) 0) (bxI w (8 + i) 2) al far with
            | false =>
              rw [if_pos bz]
              exact no (by unfold mmB; rw [show 2 + 0 = 2 from rfl, c1, Bool.false_and, Bool.and_false, Bool.and_false])
            | true =>
              rw [if_neg bnz]
              cases c2 : mtB (bxI w (8 + i) 1) (bxI w (8 + i) 3) sd br with
              | false =>
                rw [if_pos bz]
                exact no (by unfold mmB; rw [show 1 - 0 = 1 from rfl, show 3 - 0 = 3 from rfl, c2, Bool.and_false, Bool.and_false, Bool.and_false])
              | true =>
                rw [if_neg bnz, if_neg (by decide)]
                rw [orS_t (show mmB w 0 al far sd br (8 + i) = true by unfold mmB; rw [hb, decide_eq_true (show 0 < far by omega), show 2 + 0 = 2 from rfl, show 1 - 0 = 1 from rfl, show 3 - 0 = 3 from rfl, c1, c2]; rfl)] at i1
                exact i1
          · rw [q] at i1 no ⊢
            rw [if_neg (by decide)]
            cases c1 : mtB (bxI w (8 + i) 1) (bxI w (8 + i) 3) al far with
            | false =>
              rw [if_pos bz]
              exact no (by unfold mmB; rw [show 2 + 1 = 3 from rfl, c1, Bool.false_and, Bool.and_false, Bool.and_false])
            | true =>
              rw [if_neg bnz]
              cases c2 : mtB (bxI w (8 + i) 0) (bxI w (8 + i) 2) sd br with
              | false =>
                rw [if_pos bz]
                exact no (by unfold mmB; rw [show 1 - 1 = 0 from rfl, show 3 - 1 = 2 from rfl, c2, Bool.and_false, Bool.and_false, Bool.and_false])
              | true =>
                rw [if_neg bnz, if_neg (by decide)]
                rw [orS_t (show mmB w 1 al far sd br (8 + i) = true by unfold mmB; rw [hb, decide_eq_true (show 0 < far by omega), show 2 + 1 = 3 from rfl, show 1 - 1 = 0 from rfl, show 3 - 1 = 2 from rfl, c1, c2]; rfl)] at i1
                exact i1
/-- behind p comes q -/
theorem m_later_49 {w : Wd} (h : Rel w) {a b p q : Nat} (ha : a < 8) (hb : b < 8) (ta : bt (w.1 5 0) a = true) (tb : bt (w.1 5 0) b = true) (hp : p < 8) (hq : q < 8) (tp' : bt (w.1 5 0) p = true) (tq : bt (w.1 5 0) q = true) (hw : wy w a = wy w b) : f_X10_later_49 (nI q) (nI a) (nI b) (nI p) w = some (orS (mmB w (wy w a) (bxI w p (wy w p) + bxI w p (2 + wy w p)) (btI w p q) (lle w a b) (lgr w a b - lle w a b)) 8 6, w) := by
  obtain ⟨ya, -⟩ := h.bun ha ta
  obtain ⟨yp, -⟩ := h.bun hp tp'
  have a3 := bxs4 h (t := a) (by omega) ta (k := 1 - wy w a) (by omega)
  have a4 := bxs4 h (t := b) (by omega) tb (k := 1 - wy w a) (by omega)
  have b3 := bxs4' h (t := a) (by omega) ta (k := 1 - wy w a) (j := 3 - wy w a) (by omega) (by omega)
  have b4 := bxs4' h (t := b) (by omega) tb (k := 1 - wy w a) (j := 3 - wy w a) (by omega) (by omega)
  have c1 := bxs4' h (t := p) (by omega) tp' (k := wy w p) (j := 2 + wy w p) (by omega) (by omega)
  have c2 : s4 (btI w p q) := by have := (bt_b h hp hq tp' tq).2; unfold s4; omega
  have d1 := h.bxb (t := a) (by omega) ta (k := 1 - wy w a) (by omega)
  have d2 := h.bxb (t := b) (by omega) tb (k := 1 - wy w a) (by omega)
  have d3 := h.bxb (t := a) (by omega) ta (k := 3 - wy w a) (by omega)
  have d4 := h.bxb (t := b) (by omega) tb (k := 3 - wy w a) (by omega)
  have e2 : 2 + (1 - wy w a) = 3 - wy w a := by omega
  have l3 : s4 (lle w a b) := mn_s4 a3 a4
  have l4 : s4 (lgr w a b - lle w a b) := by
    unfold lgr lle mxI mnI s4
    rw [e2]
    split <;> split <;> omega
  have fin : ∀ s g, s = tI (lle w a b) → g = tI (lgr w a b) → f_X10_later_142 g (nI a) (tI (bxI w p (wy w p) + bxI w p (2 + wy w p))) (tI (btI w p q)) s w = some (orS (mmB w (wy w a) (bxI w p (wy w p) + bxI w p (2 + wy w p)) (btI w p q) (lle w a b) (lgr w a b - lle w a b)) 8 6, w) := by
    intro s g es eg
    subst es; subst eg
    unfold f_X10_later_142
    rw [tI_sb]
    exact m_later_154 h ha ta c1 c2 l3 l4 fu 0 (by decide) (by decide)
  have fin2 : ∀ s, s = tI (lle w a b) → f_X10_later_100 s (nI a) (nI b) (tI (bxI w p (wy w p) + bxI w p (2 + wy w p))) (tI (btI w p q)) w = some (orS (mmB w (wy w a) (bxI w p (wy w p) + bxI w p (2 + wy w p)) (btI w p q) (lle w a b) (lgr w a b - lle w a b)) 8 6, w) := by
    intro s es
    unfold f_X10_later_100
    rw [m_sideOf h ha ta, Option.bind_some]
    dsimp only
    rw [m_broadOf h ha ta, Option.bind_some]
    dsimp only
    rw [m_sideOf h hb tb, Option.bind_some]
    dsimp only
    rw [m_broadOf h hb tb, Option.bind_some]
    dsimp only
    rw [tI_add, tI_add, ← hw]
    simp only [tI_le (s4_sm b3) (s4_sm b4)]
    by_cases c : bxI w a (1 - wy w a) + bxI w a (3 - wy w a) ≤ bxI w b (1 - wy w a) + bxI w b (3 - wy w a)
    · rw [if_pos c]
      refine fin _ _ es ?_
      unfold lgr mxI
      rw [e2]
      congr 1
      split <;> omega
    · rw [if_neg c]
      refine fin _ _ es ?_
      unfold lgr mxI
      rw [e2, if_neg (by omega)]
  unfold f_X10_later_49
  rw [m_beginOf h hp tp', Option.bind_some]
  dsimp only
  rw [m_long h hp tp', Option.bind_some]
  dsimp only
  rw [m_between h hp hq tp' tq, Option.bind_some]
  dsimp only
  rw [m_sideOf h ha ta, Option.bind_some]
  dsimp only
  rw [m_sideOf h hb tb, Option.bind_some]
  dsimp only
  rw [m_sideOf h hb tb, Option.bind_some, m_sideOf h ha ta, Option.bind_some]
  dsimp only
  rw [tI_add, ← hw]
  simp only [tI_le (s4_sm a4) (s4_sm a3)]
  by_cases c : bxI w b (1 - wy w a) ≤ bxI w a (1 - wy w a)
  · rw [if_pos c]
    refine fin2 _ ?_
    unfold lle mnI
    congr 1
    split <;> omega
  · rw [if_neg c]
    refine fin2 _ ?_
    unfold lle mnI
    rw [if_neg (by omega)]
theorem cv_mt {w : Wd} (h : Rel w) {m k : Nat} (hm : m < 14) (tm : bt (w.1 5 0) m = true) (hk : k < 2) (f d : Int) : cvB w m k f (f + d) = (decide (0 < d) && mtB (bxI w m k) (bxI w m (2 + k)) f d) := by
  have a1 := h.bxb hm tm (k := k) (by omega)
  have a2 := h.bxb hm tm (k := 2 + k) (by omega)
  have a3 := a2.2 (by omega)
  rw [Bool.eq_iff_iff]
  unfold cvB mtB mxI mnI
  simp only [Bool.and_eq_true, decide_eq_true_eq]
  split <;> split <;> omega
theorem lt_eq {w : Wd} (h : Rel w) {a b : Nat} (ha : a < 8) (hb : b < 8) (ta : bt (w.1 5 0) a = true) (tb : bt (w.1 5 0) b = true) {al far : Int} (e1 : lfr w a b = al) (e2 : lto w a b = al + far) : ltX w a b = orS (mmB w (wy w a) al far (lle w a b) (lgr w a b - lle w a b)) 8 6 := by
  obtain ⟨ya, -⟩ := h.bun ha ta
  unfold ltX
  refine orS_cong (fun k hk => ?_)
  unfold mkB mmB
  cases tm : bt (w.1 5 0) (8 + k) with
  | false => rfl
  | true =>
    rw [e1, e2, cv_mt h (by omega) tm (by omega)]
    have e3 : lgr w a b = lle w a b + (lgr w a b - lle w a b) := by omega
    rw [show cvB w (8 + k) (1 - wy w a) (lle w a b) (lgr w a b) = cvB w (8 + k) (1 - wy w a) (lle w a b) (lle w a b + (lgr w a b - lle w a b)) by rw [← e3], cv_mt h (by omega) tm (by omega)]
    have d1 := h.bxb (t := a) (by omega) ta (k := 1 - wy w a) (by omega)
    have d2 := h.bxb (t := b) (by omega) tb (k := 1 - wy w a) (by omega)
    have d3 := h.bxb (t := a) (by omega) ta (k := 2 + (1 - wy w a)) (by omega)
    have d4 := h.bxb (t := b) (by omega) tb (k := 2 + (1 - wy w a)) (by omega)
    have d5 := d3.2 (by omega)
    have d6 := d4.2 (by omega)
    have : 0 < lgr w a b - lle w a b := by
      unfold lgr lle mxI mnI
      split <;> split <;> omega
    rw [decide_eq_true this, show 2 + (1 - wy w a) = 3 - wy w a by omega]
    simp only [Bool.true_and, Bool.and_assoc]
theorem alk_wy {w : Wd} {a b : Nat} (h : jn w a b = true) : wy w a = wy w b := by
  unfold jn at h
  rw [Bool.and_eq_true] at h
  have := h.1
  unfold alk at this
  rw [decide_eq_true_eq] at this
  unfold wy
  rw [this]
theorem op_later (p q : Int32) {w : Wd} (h : Rel w) : Agree (f_X9_later p q) (f_X10_later p q) w := by
  unfold Agree f_X9_later f_X10_later
  rw [e_isPair, Option.bind_some]
  dsimp only
  cases ht : twB w p q with
  | false =>
    refine ⟨-2, w, w, by rw [if_pos bz], ?_, h⟩
    rw [m_areTwo h.told, Option.bind_some, ht]; rfl
  | true =>
    obtain ⟨a, b, ha, hb, rfl, rfl, ta, tb, hne⟩ := twB_nI ht
    rw [if_neg bnz, e_joined h ha hb ta tb, Option.bind_some]
    dsimp only
    cases hj : jn w a b with
    | false =>
      refine ⟨-4, w, w, by rw [if_pos bz], ?_, h⟩
      rw [m_areTwo h.told, Option.bind_some, ht, if_neg bnz, m_joined h ha hb ta tb, Option.bind_some, hj]; rfl
    | true =>
      rw [if_neg bnz, e_marks h ha hb ta tb, Option.bind_some]
      refine ⟨ltX w a b, w, w, rfl, ?_, h⟩
      rw [m_areTwo h.told, Option.bind_some, ht, if_neg bnz, m_joined h ha hb ta tb, Option.bind_some, hj, if_neg bnz, m_between h ha hb ta tb, Option.bind_some]
      dsimp only
      have hw := alk_wy hj
      obtain ⟨ya, -⟩ := h.bun ha ta
      have a1 := h.bxb (t := a) (by omega) ta (k := wy w a) (by omega)
      have b1 := h.bxb (t := b) (by omega) tb (k := wy w a) (by omega)
      have a2 := h.bxb (t := a) (by omega) ta (k := 2 + wy w a) (by omega)
      have b2 := h.bxb (t := b) (by omega) tb (k := 2 + wy w a) (by omega)
      have a5 := a2.2 (by omega)
      have b5 := b2.2 (by omega)
      have hyb : 0 ≤ ybI w a b (wy w a) := by
        unfold jn at hj
        simp only [Bool.and_eq_true, decide_eq_true_eq] at hj
        exact hj.2.2.2.2.1.1
      unfold ybI mxI mnI at hyb
      simp only [show (tI (btI w a b) < 0) = (btI w a b < 0) from tI_lt (y := 0) (bt_b h ha hb ta tb).1 (by unfold smI; omega)]
      unfold f_X10_later_38
      by_cases c : btI w a b < 0
      · rw [if_pos c, if_neg (fun e => hne ((nI_eq (by omega) (by omega)).mp e).symm), m_later_49 h ha hb ta tb hb ha tb ta hw]
        unfold btI at c
        rw [← hw] at c
        rw [lt_eq h ha hb ta tb (al := bxI w b (wy w b) + bxI w b (2 + wy w b)) (far := btI w b a)]
        · unfold lfr mnI
          rw [← hw]
          split at hyb <;> split at hyb <;> split <;> omega
        · unfold lto mxI btI
          rw [← hw]
          split at hyb <;> split at hyb <;> split <;> omega
      · rw [if_neg c, if_pos rfl, m_later_49 h ha hb ta tb ha hb ta tb hw]
        unfold btI at c
        rw [← hw] at c
        rw [lt_eq h ha hb ta tb (al := bxI w a (wy w a) + bxI w a (2 + wy w a)) (far := btI w a b)]
        · unfold lfr mnI
          split at hyb <;> split at hyb <;> split <;> omega
        · unfold lto mxI btI
          rw [← hw]
          split at hyb <;> split at hyb <;> split <;> omega
