/-! bundle, covers, picture, shows -/
theorem nl (a b c : Nat) : nI a * nI b + nI c = nI (a * b + c) := by rw [pk_mul, nI_add]
theorem e_part {b k : Nat} (hb : b < 8) (hk : k < 9) (w : Wd) : f_X0_part (nI b) (nI k) w = some (w.1 6 (9 * b + k), w) := by
  unfold f_X0_part
  rw [e_at (k := 6) (by decide) lay_6, show nI b * 9 + nI k = nI (b * 9 + k) from nl b 9 k, atv_in (by omega) (by decide), Nat.mul_comm b 9]
  rfl
theorem e_box {t k : Nat} (ht : t < 14) (hk : k < 4) (w : Wd) : f_X0_boxPart (nI t) (nI k) w = some (w.1 7 (4 * t + k), w) := by
  unfold f_X0_boxPart
  rw [e_at (k := 7) (by decide) lay_7, show nI t * 4 + nI k = nI (t * 4 + k) from nl t 4 k, atv_in (by omega) (by decide), Nat.mul_comm t 4]
  rfl
theorem m_of {b k : Nat} (hb : b < 8) (hk : k < 7) (w : Wd) : f_X10_of (nI b) (nI k) w = some (w.1 34 (7 * b + k), w) := by
  unfold f_X10_of
  rw [show 7 * nI b + nI k = nI (7 * b + k) from nl 7 b k, inB_nI (by omega) (by decide), ix_nI (by omega)]
  rfl
theorem Rel.box {w : Wd} (h : Rel w) {t : Nat} (ht : t < 14) : w.1 35 t = w.1 7 (4 * t) ∧ w.1 36 t = w.1 7 (4 * t + 1) ∧ w.1 37 t = w.1 7 (4 * t + 2) ∧ w.1 38 t = w.1 7 (4 * t + 3) := h.2.1.1 t ht
theorem Rel.of {w : Wd} (h : Rel w) {b k : Nat} (hb : b < 8) (hk : k < 7) : w.1 34 (7 * b + k) = w.1 6 (9 * b + (k + 2)) := by
  rw [h.2.1.2 b hb k hk, show 9 * b + 2 + k = 9 * b + (k + 2) by omega]
theorem Rel.told {w : Wd} (h : Rel w) : w.1 33 0 = w.1 5 0 := h.1.1
/-- a number from a to b, or none of them -/
theorem wi_no {p : Int32} {n : Nat} (hn : n < 2 ^ 31) (h : wi p 0 (nI n) = false) {j : Nat} (hj : j ≤ n) : ¬ p = nI j := by
  intro e
  rw [e, nI_wi hj hn] at h
  cases h
theorem op_covers (p0 p1 : Int32) {w : Wd} (h : Rel w) : Agree (f_X9_covers p0 p1) (f_X10_covers p0 p1) w := by
  unfold Agree f_X9_covers f_X10_covers
  simp only [e_isThing, m_isThing, Option.bind_some, b2i_0, h.told]
  cases h1 : isT 13 (w.1 5 0) p0 with
  | false => exact ⟨-2, w, w, rfl, by rw [h.told, h1]; rfl, h⟩
  | true =>
    obtain ⟨t, ht, rfl, -⟩ := isT_nI (n := 13) (by decide) h1
    obtain ⟨b0, b1, b2, b3⟩ := h.box (t := t) (by omega)
    simp only [e_within, Option.bind_some, b2i_0]
    cases h2 : wi p1 0 3 with
    | false =>
      have n0 : ¬ p1 = 0 := wi_no (n := 3) (j := 0) (by decide) h2 (by decide)
      have n1 : ¬ p1 = 1 := wi_no (n := 3) (j := 1) (by decide) h2 (by decide)
      have n2 : ¬ p1 = 2 := wi_no (n := 3) (j := 2) (by decide) h2 (by decide)
      have n3 : ¬ p1 = 3 := wi_no (n := 3) (j := 3) (by decide) h2 (by decide)
      refine ⟨-3, w, w, rfl, ?_, h⟩
      rw [h.told, h1]
      show (if p1 = 0 then _ else if p1 = 1 then _ else if p1 = 2 then _ else if p1 = 3 then _ else _) = _
      rw [if_neg n0, if_neg n1, if_neg n2, if_neg n3]
    | true =>
      obtain ⟨k, hk, rfl⟩ := wi_nI (n := 3) (by decide) h2
      refine ⟨w.1 7 (4 * t + k), w, w, ?_, ?_, h⟩
      · show (Option.bind (f_X0_boxPart (nI t) (nI k) w) _) = _
        rw [e_box (by omega) (by omega)]
        rfl
      · rw [h.told, h1]
        show (if nI k = 0 then _ else if nI k = 1 then _ else if nI k = 2 then _ else if nI k = 3 then _ else _) = _
        simp only [inB_nI (show t < 14 by omega) (show (14 : Nat) < 2 ^ 31 by decide), ix_nI (show t < 2 ^ 31 by omega), if_true]
        rcases (show k = 0 ∨ k = 1 ∨ k = 2 ∨ k = 3 by omega) with rfl | rfl | rfl | rfl
        · rw [if_pos (by decide), b0]; rfl
        · rw [if_neg (by decide), if_pos (by decide), b1]
        · rw [if_neg (by decide), if_neg (by decide), if_pos (by decide), b2]
        · rw [if_neg (by decide), if_neg (by decide), if_neg (by decide), if_pos (by decide), b3]
theorem nb_mul3 {x y z : Int32} : x * y * z = z * (x * y) := Int32.mul_comm _ _
/-- yards: ridges times wide times long is what it covers -/
theorem Rel.yards {w : Wd} (h : Rel w) {b : Nat} (hb : b < 8) (ht : bt (w.1 5 0) b = true) : w.1 6 (9 * b + 3) * w.1 6 (9 * b + 4) * w.1 6 (9 * b + 5) = w.1 37 b * w.1 38 b := by
  obtain ⟨-, -, b2, b3⟩ := h.box (t := b) (by omega)
  obtain ⟨-, -, -, -, ⟨n, -, hn, e⟩, -, -, -, -, -, -, z0, z1⟩ := h.2.2.1 b hb ht
  rw [b2, b3]
  rcases (show n = 0 ∨ n = 1 by omega) with rfl | rfl
  · obtain ⟨a1, a2⟩ := z0 e
    rw [a1, a2, Int32.mul_comm]
  · obtain ⟨a1, a2⟩ := z1 e
    rw [a1, a2]
theorem e_yards {b : Nat} (hb : b < 8) (w : Wd) : f_X0_yards (nI b) w = some (w.1 6 (9 * b + 3) * w.1 6 (9 * b + 4) * w.1 6 (9 * b + 5), w) := by
  unfold f_X0_yards
  have e3 := e_part (b := b) (k := 3) hb (by decide) w
  have e4 := e_part (b := b) (k := 4) hb (by decide) w
  have e5 := e_part (b := b) (k := 5) hb (by decide) w
  rw [show f_X0_part (nI b) 3 w = _ from e3]
  show Option.bind (f_X0_part (nI b) 4 w) _ = _
  rw [show f_X0_part (nI b) 4 w = _ from e4]
  show Option.bind (f_X0_part (nI b) 5 w) _ = _
  rw [show f_X0_part (nI b) 5 w = _ from e5]
  rfl
theorem m_yards {b : Nat} (hb : b < 14) (w : Wd) : f_X10_yardsOf (nI b) w = some (w.1 37 b * w.1 38 b, w) := by
  unfold f_X10_yardsOf
  simp only [inB_nI hb (show (14 : Nat) < 2 ^ 31 by decide), ix_nI (show b < 2 ^ 31 by omega), if_true]
theorem op_bundle (p0 p1 : Int32) {w : Wd} (h : Rel w) : Agree (f_X9_bundle p0 p1) (f_X10_bundle p0 p1) w := by
  unfold Agree f_X9_bundle f_X10_bundle
  simp only [e_isBundle, m_isBundle, Option.bind_some, b2i_0]
  cases h1 : isT 7 (w.1 5 0) p0 with
  | false => exact ⟨-2, w, w, rfl, by rw [h.told, h1]; rfl, h⟩
  | true =>
    obtain ⟨b, hb, rfl, hbt⟩ := isT_nI (n := 7) (by decide) h1
    have hb : b < 8 := by omega
    obtain ⟨b0, b1, b2, b3⟩ := h.box (t := b) (by omega)
    obtain ⟨x0, y0, -⟩ := h.2.2.1 b hb hbt
    simp only [e_within, e_in, Option.bind_some, b2i_0]
    by_cases h9 : p1 = 9
    · subst h9
      refine ⟨w.1 37 b * w.1 38 b, w, w, ?_, ?_, h⟩
      · show Option.bind (f_X0_yards (nI b) w) _ = _
        rw [e_yards hb, h.yards hb hbt]; rfl
      · rw [h.told, h1]
        show Option.bind (f_X10_yardsOf (nI b) w) _ = _
        rw [m_yards (by omega)]; rfl
    · cases h2 : wi p1 0 8 with
      | false =>
        refine ⟨-3, w, w, ?_, ?_, h⟩
        · show (if p1 = 9 then _ else _) = _
          rw [if_neg h9]; rfl
        · rw [h.told, h1]
          have : wi p1 0 9 = false := by
            cases h3 : wi p1 0 9 with
            | false => rfl
            | true =>
              obtain ⟨k, hk, rfl⟩ := wi_nI (n := 9) (by decide) h3
              rcases (show k = 9 ∨ k ≤ 8 by omega) with rfl | hk8
              · exact absurd rfl h9
              · have := nI_wi (j := k) (n := 8) hk8 (by decide)
                rw [show wi (nI k) 0 8 = true from this] at h2; cases h2
          rw [this]; rfl
      | true =>
        obtain ⟨k, hk, rfl⟩ := wi_nI (n := 8) (by decide) h2
        refine ⟨w.1 6 (9 * b + k), w, w, ?_, ?_, h⟩
        · show (if nI k = 9 then _ else _) = _
          rw [if_neg h9]
          show Option.bind (f_X0_part (nI b) (nI k) w) _ = _
          rw [e_part hb (by omega)]; rfl
        · rw [h.told, h1, show wi (nI k) 0 9 = true from nI_wi (n := 9) (by omega) (by decide)]
          show (if nI k = 0 then _ else if nI k = 1 then _ else if nI k = 9 then _ else _) = _
          simp only [inB_nI (show b < 14 by omega) (show (14 : Nat) < 2 ^ 31 by decide), ix_nI (show b < 2 ^ 31 by omega), if_true]
          rcases (show k = 0 ∨ k = 1 ∨ ∃ j, j < 7 ∧ k = j + 2 by
            rcases (show k = 0 ∨ k = 1 ∨ 2 ≤ k by omega) with e | e | e
            · exact Or.inl e
            · exact Or.inr (Or.inl e)
            · exact Or.inr (Or.inr ⟨k - 2, by omega, by omega⟩)) with rfl | rfl | ⟨j, hj, rfl⟩
          · rw [if_pos (by decide), b0, ← x0]; rfl
          · rw [if_neg (by decide), if_pos (by decide), b1, ← y0]
          · have m0 : ¬ nI (j + 2) = 0 := fun e => absurd ((nI_eq (a := j + 2) (b := 0) (by omega) (by decide)).mp e) (by omega)
            have m1 : ¬ nI (j + 2) = 1 := fun e => absurd ((nI_eq (a := j + 2) (b := 1) (by omega) (by decide)).mp e) (by omega)
            rw [if_neg m0, if_neg m1, if_neg h9]
            have e2 : nI (j + 2) - 2 = nI j := by
              show nI (j + 2) - nI 2 = nI j
              rw [pk_sub (by omega)]; rfl
            rw [e2, m_of hb hj, h.of hb hj]; rfl
