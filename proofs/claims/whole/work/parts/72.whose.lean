/-! whose -/
theorem e_rem {a r : Nat} (ha : a < 2 ^ 31) (h1 : 1 ≤ r) (hr : r < 2 ^ 31) (w : Wd) : f_X9_remainder (nI a) (nI r) w = some (nI (a % r), w) := by
  unfold f_X9_remainder
  have h0 : ¬ nI r = 0 := nI_ne0 (by omega) hr
  rw [if_pos (show (1 : Int32) ≤ nI r from nI_le (a := 1) h1 hr), if_neg h0]
  rw [show jrem (nI a) (nI r) = nI (a % r) from pk_rem ha (by omega) hr]
theorem e_hold_14 {w : Wd} {r rest : Nat} (h1 : 1 ≤ r) (hr : r ≤ 30) (hs : rest < 30) : ∀ (n j : Nat), j ≤ 30 → 30 - j < n → ∃ v, f_X7_holderByTurns_14 n (nI r) (nI rest) (nI j) w = some (v, w) ∧ ((∃ i, j ≤ i ∧ i < 30 ∧ i % r = rest ∧ w.1 28 i ≠ -1 ∧ v = w.1 28 i) ∨ (v = -1 ∧ ∀ i, j ≤ i → i < 30 → i % r = rest → w.1 28 i = -1)) := by
  intro n
  induction n with
  | zero => intro j _ h; omega
  | succ n ih =>
    intro j hj hn
    rw [f_X7_holderByTurns_14]
    by_cases h : j = 30
    · subst h
      rw [if_pos (by decide)]
      exact ⟨-1, rfl, Or.inr ⟨rfl, fun i a b => by omega⟩⟩
    · have hj30 : j < 30 := by omega
      rw [if_neg (n30 (by omega)), e_rem (by omega) h1 (by omega), Option.bind_some]
      dsimp only
      obtain ⟨v, ev, hv⟩ := ih (j + 1) (by omega) (by omega)
      have hm : j % r < 2 ^ 31 := Nat.lt_of_lt_of_le (Nat.mod_lt j (by omega)) (by omega)
      by_cases h2 : j % r = rest
      · rw [if_pos (by rw [h2]), e_at (k := 28) (by decide) lay_28, Option.bind_some, atv_in hj30 (by decide)]
        dsimp only
        by_cases h3 : w.1 28 j = -1
        · rw [if_pos h3, p1]
          refine ⟨v, ev, ?_⟩
          rcases hv with ⟨i, a, b, c, d, e⟩ | ⟨a, b⟩
          · exact Or.inl ⟨i, by omega, b, c, d, e⟩
          · refine Or.inr ⟨a, fun i x y z => ?_⟩
            rcases Nat.lt_or_ge j i with q | q
            · exact b i (by omega) y z
            · have : i = j := by omega
              subst this; exact h3
        · rw [if_neg h3, e_at (k := 28) (by decide) lay_28, Option.bind_some, atv_in hj30 (by decide)]
          exact ⟨w.1 28 j, rfl, Or.inl ⟨j, Nat.le_refl j, hj30, h2, h3, rfl⟩⟩
      · have h2' : ¬ nI (j % r) = nI rest := fun e => h2 ((nI_eq hm (by omega)).mp e)
        rw [if_neg h2', p1]
        refine ⟨v, ev, ?_⟩
        rcases hv with ⟨i, a, b, c, d, e⟩ | ⟨a, b⟩
        · exact Or.inl ⟨i, by omega, b, c, d, e⟩
        · refine Or.inr ⟨a, fun i x y z => ?_⟩
          rcases Nat.lt_or_ge j i with q | q
          · exact b i (by omega) y z
          · have : i = j := by omega
            subst this; exact absurd z h2
theorem m_whose_25 {w : Wd} {r : Nat} (h1 : 1 ≤ r) (hr : r ≤ 30) : ∀ (n j : Nat) (v : Int32), j ≤ 60 → 60 - j < n → ∃ v', f_X10_whose_25 n (nI r) v (nI j) w = some (v', w) ∧ ((∃ k, j + k * r < 30 ∧ w.1 53 (j + k * r) ≠ -1 ∧ v' = w.1 53 (j + k * r)) ∨ (v' = v ∧ ∀ k, j + k * r < 30 → w.1 53 (j + k * r) = -1)) := by
  intro n
  induction n with
  | zero => intro j v _ h; omega
  | succ n ih =>
    intro j v hj hn
    rw [f_X10_whose_25]
    by_cases h : 30 ≤ j
    · rw [if_pos (g30 h (by omega))]
      exact ⟨v, rfl, Or.inr ⟨rfl, fun k hk => by omega⟩⟩
    · have hj30 : j < 30 := by omega
      have sh : ∀ k, j + (k + 1) * r = (j + r) + k * r := fun k => by rw [Nat.succ_mul]; omega
      unfold f_X10_whose_54
      simp only [if_neg (n30 hj30), inB_nI hj30 (show 30 < 2 ^ 31 by decide), ix_nI (show j < 2 ^ 31 by omega), if_true, nI_add]
      by_cases h2 : w.1 53 j = -1
      · rw [if_pos h2]
        obtain ⟨v', ev, hv⟩ := ih (j + r) v (by omega) (by omega)
        refine ⟨v', ev, ?_⟩
        rcases hv with ⟨k, a, b, c⟩ | ⟨a, b⟩
        · exact Or.inl ⟨k + 1, by rw [sh]; exact a, by rw [sh]; exact b, by rw [sh]; exact c⟩
        · refine Or.inr ⟨a, fun k hk => ?_⟩
          cases k with
          | zero => simp only [Nat.zero_mul, Nat.add_zero]; exact h2
          | succ k => rw [sh] at hk ⊢; exact b k hk
      · rw [if_neg h2]
        obtain ⟨v', ev, hv⟩ := ih (j + r) (w.1 53 j) (by omega) (by omega)
        refine ⟨v', ev, Or.inl ?_⟩
        rcases hv with ⟨k, a, b, c⟩ | ⟨a, b⟩
        · exact ⟨k + 1, by rw [sh]; exact a, by rw [sh]; exact b, by rw [sh]; exact c⟩
        · exact ⟨0, by omega, by simp only [Nat.zero_mul, Nat.add_zero]; exact h2, by simp only [Nat.zero_mul, Nat.add_zero]; exact a⟩
theorem gd_two {h : Nat → Int32} {r a x y : Nat} (hR : isR h r) (hx : a + x * r < 30) (hy : a + y * r < 30) (h1 : h (a + x * r) ≠ -1) (h2 : h (a + y * r) ≠ -1) : h (a + x * r) = h (a + y * r) := by
  obtain ⟨r1, r2, r3, -⟩ := hR
  have key : ∀ x y, x < y → a + y * r < 30 → h (a + x * r) ≠ -1 → h (a + y * r) ≠ -1 → h (a + x * r) = h (a + y * r) := by
    intro x y hxy hy h1 h2
    have hr : r < 30 := by
      have : 1 * r ≤ y * r := Nat.mul_le_mul_right r (by omega)
      have : ¬ r = 30 := fun e => by omega
      omega
    have hg := (gd_all r1).mp (r3 hr) (a + x * r) (by
      have : x * r ≤ y * r := Nat.mul_le_mul_right r (by omega)
      omega) (y - x) (by omega)
    have e : a + x * r + (y - x) * r = a + y * r := by
      have : x * r + (y - x) * r = y * r := by rw [← Nat.add_mul]; congr 1; omega
      omega
    rw [e] at hg
    have hg := hg hy
    unfold unl at hg
    simp only [h1, h2, ne_eq, not_false_eq_true, decide_true, Bool.true_and, decide_eq_false_iff_not, Classical.not_not] at hg
    exact hg
  rcases Nat.lt_trichotomy x y with z | z | z
  · exact key x y z hy h1 h2
  · rw [z]
  · exact (key y x z hx h2 h1).symm
theorem op_whose (p0 : Int32) {w : Wd} (h : Rel w) : Agree (f_X9_whose p0) (f_X10_whose p0) w := by
  have r53 := h.e.2.2.2.2.2.2.2.2.2.2.2.2.2.2.1
  unfold Agree f_X9_whose f_X10_whose
  simp only [e_within, e_in, Option.bind_some, b2i_0]
  cases h1 : wi p0 0 99 with
  | false => exact ⟨-3, w, w, rfl, rfl, h⟩
  | true =>
    simp only [reduceCtorEq, if_false, Bool.true_eq_false]
    obtain ⟨s, hs, rfl⟩ := wi_nI (n := 99) (by decide) h1
    obtain ⟨r, hr, er⟩ := e_least w
    obtain ⟨q, hq, eq⟩ := m_roundOf w
    rw [r53] at hq
    have e := isR_one hr hq
    subst e
    have r1 := hr.1
    have r2 := hr.2.1
    have hm : s % r < r := Nat.mod_lt s (by omega)
    obtain ⟨v, ev, hv⟩ := e_hold_14 (w := w) r1 r2 (rest := s % r) (by omega) fu 0 (by decide) (by decide)
    obtain ⟨v', ev', hv'⟩ := m_whose_25 (w := w) r1 r2 fu (s % r) (-1) (by omega) (Nat.lt_of_le_of_lt (by omega : 60 - s % r ≤ 60) (by decide))
    have evv : v = v' := by
      rw [r53] at hv'
      rcases hv with ⟨i, -, b, c, d, e⟩ | ⟨a, b⟩
      · have ei : s % r + i / r * r = i := by have := Nat.mod_add_div i r; rw [Nat.mul_comm] at this; omega
        rcases hv' with ⟨k, a', b', c'⟩ | ⟨a', b'⟩
        · rw [e, c', ← ei]
          exact gd_two hr (by rw [ei]; exact b) a' (by rw [ei]; exact d) b'
        · have := b' (i / r) (by rw [ei]; exact b)
          rw [ei] at this; exact absurd this d
      · rcases hv' with ⟨k, a', b', c'⟩ | ⟨a', b'⟩
        · have := b (s % r + k * r) (Nat.zero_le _) a' (by rw [Nat.add_mul_mod_self_right, Nat.mod_mod])
          exact absurd this b'
        · rw [a, a']
    subst evv
    refine ⟨v, w, w, ?_, ?_, h⟩
    · unfold f_X7_holderByTurns
      rw [er, Option.bind_some, e_rem (by omega) r1 (by omega), Option.bind_some]
      rw [show f_X7_holderByTurns_14 fu (nI r, w).1 (nI (s % r), w).1 0 (nI (s % r), w).2 = some (v, w) from ev, Option.bind_some]
    · rw [eq, Option.bind_some]
      dsimp only
      rw [if_neg (show ¬ nI r = 0 from nI_ne0 (by omega) (by omega)), show jrem (nI s) (nI r) = nI (s % r) from pk_rem (by omega) (by omega) (by omega)]
      exact ev'
