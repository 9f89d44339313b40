/-! teams -/
/-- the set of those from a on, n of them, of which p holds -/
def orS (p : Nat → Bool) (a : Nat) : Nat → Int32
  | 0 => 0
  | n + 1 => if p (a + n) then orS p a n ||| jshl 1 (nI (a + n)) else orS p a n
theorem orS_t {p : Nat → Bool} {a n : Nat} (h : p (a + n) = true) : orS p a (n + 1) = orS p a n ||| jshl 1 (nI (a + n)) := by rw [orS, if_pos h]
theorem orS_f {p : Nat → Bool} {a n : Nat} (h : p (a + n) = false) : orS p a (n + 1) = orS p a n := by rw [orS, h]; rfl
theorem orS_cong {p q : Nat → Bool} {a : Nat} : ∀ {n : Nat}, (∀ k, k < n → p (a + k) = q (a + k)) → orS p a n = orS q a n
  | 0, _ => rfl
  | n + 1, h => by
    rw [orS, orS, h n (Nat.lt_succ_self n), orS_cong (fun k hk => h k (by omega))]
theorem bt_orS (p : Nat → Bool) (a : Nat) : ∀ (n : Nat), a + n ≤ 32 → ∀ i, i < 32 → bt (orS p a n) i = (decide (a ≤ i) && decide (i < a + n) && p i)
  | 0, _, i, _ => by
    rw [orS, b_0]
    rw [eq_comm, Bool.and_eq_false_iff]
    left
    rw [Bool.and_eq_false_iff, decide_eq_false_iff_not, decide_eq_false_iff_not]
    omega
  | n + 1, hn, i, hi => by
    have ih := bt_orS p a n (by omega) i hi
    cases hp : p (a + n) with
    | true =>
      rw [orS_t hp, bt_one _ (by omega) hi, ih]
      by_cases e : i = a + n
      · subst e
        simp [hp]
      · rw [decide_eq_false e, Bool.or_false]
        congr 2
        rw [decide_eq_decide]; omega
    | false =>
      rw [orS_f hp, ih]
      by_cases e : i = a + n
      · subst e
        simp [hp]
      · congr 2
        rw [decide_eq_decide]; omega
theorem or_0 (x : Int32) : x ||| 0 = x := by
  apply b_ext
  intro i _
  rw [b_or, b_0, Bool.or_false]
/-- whether team k fits a swing -/
def tmv (w : Wd) (s : Int32) (k : Nat) : Bool := bt (w.1 5 7) k && wi s (w.1 11 (4 * k)) (w.1 11 (4 * k + 1))
theorem e_teamPart {k j : Nat} (hk : k < 13) (hj : j < 4) (w : Wd) : f_X0_teamPart (nI k) (nI j) w = some (w.1 11 (4 * k + j), w) := by
  unfold f_X0_teamPart
  rw [e_at (k := 11) (by decide) lay_11, show nI k * 4 + nI j = nI (k * 4 + j) from nl k 4 j, atv_in (by omega) (by decide), Nat.mul_comm k 4]
  rfl
theorem e_fit_13 (w : Wd) (s : Int32) : ∀ (n i : Nat), i ≤ 12 → 12 - i < n → f_X0_fittingTeams_13 n s (orS (tmv w s) 1 i) (nI (1 + i)) w = some (orS (tmv w s) 1 12, w) := by
  intro n
  induction n with
  | zero => intro i _ h; omega
  | succ n ih =>
    intro i hi hn
    rw [f_X0_fittingTeams_13]
    by_cases h : i = 12
    · subst h
      rw [if_pos (by decide)]
    · have i1 := ih (i + 1) (by omega) (by omega)
      rw [if_neg (n12 (by omega)), e_has _ (by omega)]
      show (if b2i (bt (w.1 5 7) (1 + i)) = 0 then _ else _) = _
      rw [show nI (1 + i) + 1 = nI (1 + (i + 1)) by rw [p1]; rfl]
      cases h1 : bt (w.1 5 7) (1 + i) with
      | false =>
        have hp : tmv w s (1 + i) = false := by unfold tmv; rw [h1]; rfl
        rw [orS_f hp] at i1
        exact i1
      | true =>
        show Option.bind (f_X0_teamPart (nI (1 + i)) 0 w) _ = _
        rw [show f_X0_teamPart (nI (1 + i)) 0 w = _ from e_teamPart (j := 0) (by omega) (by decide) w]
        show Option.bind (f_X0_teamPart (nI (1 + i)) 1 w) _ = _
        rw [show f_X0_teamPart (nI (1 + i)) 1 w = _ from e_teamPart (j := 1) (by omega) (by decide) w]
        show Option.bind (f_X9_within _ _ _ w) _ = _
        rw [e_within]
        show (if b2i (wi s (w.1 11 (4 * (1 + i))) (w.1 11 (4 * (1 + i) + 1))) = 0 then _ else _) = _
        cases h2 : wi s (w.1 11 (4 * (1 + i))) (w.1 11 (4 * (1 + i) + 1)) with
        | false =>
          have hp : tmv w s (1 + i) = false := by unfold tmv; rw [h2, Bool.and_false]
          rw [orS_f hp] at i1
          exact i1
        | true =>
          have hp : tmv w s (1 + i) = true := by unfold tmv; rw [h1, h2]; rfl
          rw [orS_t hp] at i1
          exact i1
/-- the teams that fit a bundle -/
def tms (w : Wd) (b : Nat) : Int32 := orS (tmv w (w.1 6 (9 * b + 6))) 1 12
theorem e_fitting {b : Nat} (hb : b < 8) (w : Wd) : f_X0_fittingTeams (nI b) w = some (tms w b, w) := by
  unfold f_X0_fittingTeams
  rw [show f_X0_part (nI b) 6 w = _ from e_part (k := 6) hb (by decide) w, Option.bind_some]
  exact e_fit_13 w _ fu 0 (by decide) (by decide)
theorem m_teamsOf_4 {w : Wd} {b : Nat} (hb : b < 8) (ht : w.1 33 11 = w.1 5 7) (hr : w.1 43 = w.1 11) (ho : w.1 34 (7 * b + 4) = w.1 6 (9 * b + 6)) : ∀ (n i : Nat), i ≤ 12 → 12 - i < n → f_X10_teamsOf_4 n (nI b) (orS (tmv w (w.1 6 (9 * b + 6))) 1 i) (nI (1 + i)) w = some (tms w b, w) := by
  intro n
  induction n with
  | zero => intro i _ h; omega
  | succ n ih =>
    intro i hi hn
    rw [f_X10_teamsOf_4]
    by_cases h : i = 12
    · subst h
      rw [if_pos (by decide)]; rfl
    · have i1 := ih (i + 1) (by omega) (by omega)
      rw [if_neg (n13 (by omega)), bit1 _ (by omega), ht]
      have e1 : nI (1 + i) + 1 = nI (1 + (i + 1)) := by rw [p1]; rfl
      cases h1 : bt (w.1 5 7) (1 + i) with
      | false =>
        have hp : tmv w (w.1 6 (9 * b + 6)) (1 + i) = false := by unfold tmv; rw [h1]; rfl
        rw [orS_f hp] at i1
        show f_X10_teamsOf_4 n (nI b) (_ ||| 0) (nI (1 + i) + 1) w = _
        rw [or_0, e1]
        exact i1
      | true =>
        show Option.bind (f_X10_of (nI b) 4 w) _ = _
        rw [show f_X10_of (nI b) 4 w = _ from m_of (k := 4) hb (by decide) w, ho]
        have a1 : 4 * nI (1 + i) = nI (4 * (1 + i)) := pk_mul 4 (1 + i)
        show (if inB (4 * nI (1 + i)) 52 = true then (if inB (4 * nI (1 + i) + 1) 52 = true then Option.bind (f_X10_in (w.1 6 (9 * b + 6)) (w.1 43 (ix (4 * nI (1 + i)))) (w.1 43 (ix (4 * nI (1 + i) + 1))) w) _ else none) else none) = _
        rw [a1, p1, inB_nI (by omega) (by decide), inB_nI (by omega) (by decide), ix_nI (by omega), ix_nI (by omega), if_pos rfl, if_pos rfl, hr, e_in]
        show (if b2i (wi (w.1 6 (9 * b + 6)) (w.1 11 (4 * (1 + i))) (w.1 11 (4 * (1 + i) + 1))) = 0 then _ else _) = _
        cases h2 : wi (w.1 6 (9 * b + 6)) (w.1 11 (4 * (1 + i))) (w.1 11 (4 * (1 + i) + 1)) with
        | false =>
          have hp : tmv w (w.1 6 (9 * b + 6)) (1 + i) = false := by unfold tmv; rw [h2, Bool.and_false]
          rw [orS_f hp] at i1
          show f_X10_teamsOf_4 n (nI b) (_ ||| 0) (nI (1 + i) + 1) w = _
          rw [or_0, e1]
          exact i1
        | true =>
          have hp : tmv w (w.1 6 (9 * b + 6)) (1 + i) = true := by unfold tmv; rw [h1, h2]; rfl
          rw [orS_t hp] at i1
          show f_X10_teamsOf_4 n (nI b) (_ ||| jshl 1 (nI (1 + i))) (nI (1 + i) + 1) w = _
          rw [e1]
          exact i1
theorem m_teamsOf {w : Wd} {b : Nat} (hb : b < 8) (ht : w.1 33 11 = w.1 5 7) (hr : w.1 43 = w.1 11) (ho : w.1 34 (7 * b + 4) = w.1 6 (9 * b + 6)) : f_X10_teamsOf (nI b) w = some (tms w b, w) := m_teamsOf_4 hb ht hr ho fu 0 (by decide) (by decide)
theorem Rel.m_teams {w : Wd} (h : Rel w) {b : Nat} (hb : b < 8) : f_X10_teamsOf (nI b) w = some (tms w b, w) := m_teamsOf hb h.e.2.2.1 h.e.2.2.2.2.2.2.2.2.2.2.2.1 (h.of hb (by decide))
theorem op_teams (p0 : Int32) {w : Wd} (h : Rel w) : Agree (f_X9_teams p0) (f_X10_teams p0) w := by
  unfold Agree f_X9_teams f_X10_teams
  simp only [e_isBundle, m_isBundle, Option.bind_some, b2i_0]
  cases h1 : isT 7 (w.1 5 0) p0 with
  | false => exact ⟨-2, w, w, rfl, by rw [h.told, h1]; rfl, h⟩
  | true =>
    obtain ⟨b, hb, rfl, -⟩ := isT_nI (n := 7) (by decide) h1
    refine ⟨tms w b, w, w, ?_, ?_, h⟩
    · rw [e_fitting (by omega)]; rfl
    · rw [h.told, h1, h.m_teams (by omega)]; rfl
