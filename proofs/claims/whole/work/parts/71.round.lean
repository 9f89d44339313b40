/-! round, whose -/
def unl (h : Nat → Int32) (i j : Nat) : Bool := decide (h i ≠ -1) && (decide (h j ≠ -1) && decide (h i ≠ h j))
theorem e_areUnlike {i j : Nat} (hi : i < 30) (hj : j < 30) (w : Wd) : f_X7_areUnlike (nI i) (nI j) w = some (b2i (unl (w.1 28) i j), w) := by
  unfold f_X7_areUnlike
  rw [e_at (k := 28) (by decide) lay_28, Option.bind_some, e_at (k := 28) (by decide) lay_28, Option.bind_some, atv_in hi (by decide), atv_in hj (by decide)]
  dsimp only
  unfold unl
  by_cases h1 : w.1 28 i = -1
  · rw [if_pos h1]; simp [h1, b2i]
  · rw [if_neg h1]
    by_cases h2 : w.1 28 j = -1
    · rw [if_pos h2]; simp [h2, b2i]
    · rw [if_neg h2]
      by_cases h3 : w.1 28 i = w.1 28 j
      · rw [if_pos h3]; simp [h3, b2i]
      · rw [if_neg h3]; simp [h1, h2, h3, b2i]
/-- all told that are a multiple of p apart are alike -/
def gdP (h : Nat → Int32) (p : Nat) : Prop := ∀ i, i < 30 → ∀ k, k < 30 → 1 ≤ k → i + k * p < 30 → unl h i (i + k * p) = false
noncomputable def gd (h : Nat → Int32) (p : Nat) : Bool := @decide (gdP h p) (Classical.propDecidable _)
theorem gd_t {h : Nat → Int32} {p : Nat} : gd h p = true ↔ gdP h p := @decide_eq_true_iff (gdP h p) (Classical.propDecidable _)
theorem gd_f {h : Nat → Int32} {p : Nat} : gd h p = false ↔ ¬ gdP h p := @decide_eq_false_iff_not (gdP h p) (Classical.propDecidable _)
theorem bz : b2i false = 0 := rfl
theorem bnz : ¬ b2i true = 0 := by decide
theorem g30 {i : Nat} (h : 30 ≤ i) (hi : i < 2 ^ 31) : (30 : Int32) ≤ nI i := nI_le (a := 30) h hi
theorem nl2 (i k p : Nat) : nI i + nI k * nI p = nI (i + k * p) := by rw [pk_mul, nI_add]
theorem e_alike_10 {w : Wd} {p i : Nat} (hp1 : p < 30) (hi : i < 30) (k2 : Int32 → Int32 → Wd → Option (Int32 × Wd)) : ∀ (n k : Nat), 1 ≤ k → k ≤ 30 → 30 - k < n →
    ((∀ q, k ≤ q → q < 30 → i + q * p < 30 → unl (w.1 28) i (i + q * p) = false) → f_X7_allAlike_10 k2 n (nI p) (nI i) (nI k) w = k2 (nI p) (nI (i + 1)) w) ∧
    ((∃ q, k ≤ q ∧ q < 30 ∧ i + q * p < 30 ∧ unl (w.1 28) i (i + q * p) = true) → f_X7_allAlike_10 k2 n (nI p) (nI i) (nI k) w = some (0, w)) := by
  intro n
  induction n with
  | zero => intro k _ _ h; omega
  | succ n ih =>
    intro k hk1 hk hn
    rw [f_X7_allAlike_10]
    by_cases h : k = 30
    · subst h
      rw [if_pos (by decide), p1]
      exact ⟨fun _ => rfl, fun ⟨q, h1, h2, _⟩ => by omega⟩
    · obtain ⟨iA, iB⟩ := ih (k + 1) (by omega) (by omega) (by omega)
      rw [if_neg (n30 (by omega)), nl2, p1]
      have hb : i + k * p < 2 ^ 31 := by
        have : k * p ≤ 30 * 30 := Nat.mul_le_mul hk (by omega)
        omega
      by_cases h2 : 30 ≤ i + k * p
      · rw [if_pos (g30 h2 hb)]
        refine ⟨fun _ => rfl, fun ⟨q, h1, _, h3, _⟩ => ?_⟩
        have : k * p ≤ q * p := Nat.mul_le_mul_right p h1
        omega
      · rw [if_neg (n30 (by omega)), e_areUnlike hi (by omega), Option.bind_some]
        dsimp only
        rw [p1]
        cases hu : unl (w.1 28) i (i + k * p) with
        | false =>
          rw [if_pos bz]
          refine ⟨fun hq => iA (fun q h1 => hq q (by omega)), fun ⟨q, h1, h3, h4, h5⟩ => iB ⟨q, ?_, h3, h4, h5⟩⟩
          rcases Nat.lt_or_ge k q with z | z
          · omega
          · have : q = k := by omega
            subst this; rw [hu] at h5; cases h5
        | true =>
          rw [if_neg bnz]
          refine ⟨fun hq => ?_, fun _ => rfl⟩
          rw [hq k (Nat.le_refl k) (by omega) (by omega)] at hu; cases hu
theorem e_alike_2 {w : Wd} {p : Nat} (hp1 : p < 30) : ∀ (n i : Nat), i ≤ 30 → 30 - i < n →
    ((∀ j, i ≤ j → j < 30 → ∀ q, q < 30 → 1 ≤ q → j + q * p < 30 → unl (w.1 28) j (j + q * p) = false) → f_X7_allAlike_2 n (nI p) (nI i) w = some (1, w)) ∧
    ((∃ j, i ≤ j ∧ j < 30 ∧ ∃ q, 1 ≤ q ∧ q < 30 ∧ j + q * p < 30 ∧ unl (w.1 28) j (j + q * p) = true) → f_X7_allAlike_2 n (nI p) (nI i) w = some (0, w)) := by
  intro n
  induction n with
  | zero => intro i _ h; omega
  | succ n ih =>
    intro i hi hn
    rw [f_X7_allAlike_2]
    by_cases h : i = 30
    · subst h
      rw [if_pos (by decide)]
      exact ⟨fun _ => rfl, fun ⟨j, h1, h2, _⟩ => by omega⟩
    · obtain ⟨iA, iB⟩ := ih (i + 1) (by omega) (by omega)
      rw [if_neg (n30 (by omega))]
      obtain ⟨a, b⟩ := e_alike_10 (w := w) (p := p) (i := i) hp1 (by omega) (f_X7_allAlike_2 n) fu 1 (by decide) (by decide) (by decide)
      refine ⟨fun hq => ?_, fun ⟨j, h1, h2, q, h3, h4, h5, h6⟩ => ?_⟩
      · have e := a (fun q h1 h2 h3 => hq i (Nat.le_refl i) (by omega) q h2 h1 h3)
        exact e.trans (iA (fun j h1 => hq j (by omega)))
      · by_cases hx : ∃ q, 1 ≤ q ∧ q < 30 ∧ i + q * p < 30 ∧ unl (w.1 28) i (i + q * p) = true
        · exact b hx
        · have e := a (fun q h1 h2 h3 => by
            cases hu : unl (w.1 28) i (i + q * p) with
            | false => rfl
            | true => exact absurd ⟨q, h1, h2, h3, hu⟩ hx)
          refine e.trans (iB ⟨j, ?_, h2, q, h3, h4, h5, h6⟩)
          rcases Nat.lt_or_ge i j with z | z
          · omega
          · have : j = i := by omega
            subst this; exact absurd ⟨q, h3, h4, h5, h6⟩ hx
theorem e_allAlike {w : Wd} {p : Nat} (hp : p < 30) : f_X7_allAlike (nI p) w = some (b2i (gd (w.1 28) p), w) := by
  unfold f_X7_allAlike
  obtain ⟨a, b⟩ := e_alike_2 (w := w) hp fu 0 (by decide) (by decide)
  cases hg : gd (w.1 28) p with
  | true =>
    have hg := gd_t.mp hg
    exact a (fun j _ hj q h1 h2 h3 => hg j hj q h1 h2 h3)
  | false =>
    have hg := gd_f.mp hg
    refine b ?_
    apply Classical.byContradiction
    intro hx
    apply hg
    intro i hi q hq h1 h2
    cases hu : unl (w.1 28) i (i + q * p) with
    | false => rfl
    | true => exact absurd ⟨i, Nat.zero_le _, hi, q, h1, hq, h2, hu⟩ hx
/-- the least round from p on -/
theorem e_least_2 {w : Wd} : ∀ (n p : Nat), 1 ≤ p → p ≤ 30 → 30 - p < n → ∃ r, p ≤ r ∧ r ≤ 30 ∧ (r < 30 → gd (w.1 28) r = true) ∧ (∀ q, p ≤ q → q < r → gd (w.1 28) q = false) ∧ f_X7_leastRound_2 n (nI p) w = some (nI r, w) := by
  intro n
  induction n with
  | zero => intro p _ _ h; omega
  | succ n ih =>
    intro p h1 hp hn
    rw [f_X7_leastRound_2]
    by_cases h : p = 30
    · subst h
      rw [if_pos (by decide)]
      exact ⟨30, Nat.le_refl _, Nat.le_refl _, fun z => by omega, fun q a b => by omega, rfl⟩
    · rw [if_neg (n30 (by omega)), e_allAlike (by omega), Option.bind_some]
      dsimp only
      cases hg : gd (w.1 28) p with
      | true =>
        rw [if_neg bnz]
        exact ⟨p, Nat.le_refl _, hp, fun _ => hg, fun q a b => by omega, rfl⟩
      | false =>
        rw [if_pos bz, p1]
        obtain ⟨r, a1, a2, a3, a4, a5⟩ := ih (p + 1) (by omega) (by omega) (by omega)
        refine ⟨r, by omega, a2, a3, fun q b1 b2 => ?_, a5⟩
        rcases Nat.lt_or_ge p q with z | z
        · exact a4 q (by omega) b2
        · have : q = p := by omega
          subst this; exact hg
/-- r is the round -/
def isR (h : Nat → Int32) (r : Nat) : Prop := 1 ≤ r ∧ r ≤ 30 ∧ (r < 30 → gd h r = true) ∧ ∀ q, 1 ≤ q → q < r → gd h q = false
theorem isR_one {h : Nat → Int32} {a b : Nat} (ha : isR h a) (hb : isR h b) : a = b := by
  obtain ⟨a1, a2, a3, a4⟩ := ha
  obtain ⟨b1, b2, b3, b4⟩ := hb
  rcases Nat.lt_trichotomy a b with z | z | z
  · have := b4 a a1 z
    rw [a3 (by omega)] at this; cases this
  · exact z
  · have := a4 b b1 z
    rw [b3 (by omega)] at this; cases this
theorem e_least (w : Wd) : ∃ r, isR (w.1 28) r ∧ f_X7_leastRound w = some (nI r, w) := by
  obtain ⟨r, a1, a2, a3, a4, a5⟩ := e_least_2 (w := w) fu 1 (by decide) (by decide) (by decide)
  exact ⟨r, ⟨a1, a2, a3, a4⟩, a5⟩
theorem m_round_23 {w : Wd} {p i : Nat} (hp0 : 1 ≤ p) (hp1 : p ≤ 30) (hi : i < 30) (k4 : Int32 → Int32 → Wd → Option (Int32 × Wd)) (k12 : Int32 → Int32 → Int32 → Wd → Option (Int32 × Wd)) : ∀ (n j : Nat) (m : Bool), j ≤ 60 → 60 - j < n →
    ((∀ k, j + k * p < 30 → unl (w.1 53) i (j + k * p) = false) → f_X10_roundOf_23 k4 k12 n (nI p) (b2i m) (nI i) (nI j) w = k12 (nI p) (b2i m) (nI (i + 1)) w) ∧
    ((m = true ∨ ∃ k, j + k * p < 30 ∧ unl (w.1 53) i (j + k * p) = true) → f_X10_roundOf_23 k4 k12 n (nI p) (b2i m) (nI i) (nI j) w = k12 (nI p) 1 (nI (i + 1)) w) := by
  intro n
  induction n with
  | zero => intro j m _ h; omega
  | succ n ih =>
    intro j m hj hn
    rw [f_X10_roundOf_23]
    by_cases h : 30 ≤ j
    · rw [if_pos (g30 h (by omega)), p1]
      refine ⟨fun _ => rfl, fun hx => ?_⟩
      rcases hx with rfl | ⟨k, h1, _⟩
      · rfl
      · omega
    · have hj30 : j < 30 := by omega
      rw [if_neg (n30 hj30)]
      unfold f_X10_roundOf_75 f_X10_roundOf_71 f_X10_roundOf_76
      have sh : ∀ k, j + (k + 1) * p = (j + p) + k * p := fun k => by rw [Nat.succ_mul]; omega
      simp only [inB_nI hi (show 30 < 2 ^ 31 by decide), inB_nI hj30 (show 30 < 2 ^ 31 by decide), ix_nI (show i < 2 ^ 31 by omega), ix_nI (show j < 2 ^ 31 by omega), if_true, nI_add]
      obtain ⟨iA, iB⟩ := ih (j + p) m (by omega) (by omega)
      obtain ⟨tA, tB⟩ := ih (j + p) true (by omega) (by omega)
      cases m with
      | true =>
        rw [if_neg bnz]
        exact ⟨fun _ => tB (Or.inl rfl), fun _ => tB (Or.inl rfl)⟩
      | false =>
        rw [if_pos bz]
        have body : (if w.1 53 i = -1 then f_X10_roundOf_23 k4 k12 n (nI p) 0 (nI i) (nI (j + p)) w else if w.1 53 j = -1 then f_X10_roundOf_23 k4 k12 n (nI p) 0 (nI i) (nI (j + p)) w else if w.1 53 i = w.1 53 j then f_X10_roundOf_23 k4 k12 n (nI p) 0 (nI i) (nI (j + p)) w else f_X10_roundOf_23 k4 k12 n (nI p) 1 (nI i) (nI (j + p)) w) = f_X10_roundOf_23 k4 k12 n (nI p) (b2i (unl (w.1 53) i j)) (nI i) (nI (j + p)) w := by
          unfold unl
          by_cases c1 : w.1 53 i = -1
          · rw [if_pos c1]; simp [c1, b2i]
          · rw [if_neg c1]
            by_cases c2 : w.1 53 j = -1
            · rw [if_pos c2]; simp [c2, b2i]
            · rw [if_neg c2]
              by_cases c3 : w.1 53 i = w.1 53 j
              · rw [if_pos c3]; simp [c3, b2i]
              · rw [if_neg c3]; simp [c1, c2, c3, b2i]
        rw [body]
        cases hu : unl (w.1 53) i j with
        | false =>
          refine ⟨fun hq => iA (fun k hk => ?_), fun hx => iB ?_⟩
          · have := hq (k + 1) (by rw [sh]; exact hk)
            rw [sh] at this; exact this
          · rcases hx with h0 | ⟨k, h1, h2⟩
            · cases h0
            · right
              cases k with
              | zero => simp only [Nat.zero_mul, Nat.add_zero] at h2; rw [hu] at h2; cases h2
              | succ k => exact ⟨k, by rw [← sh]; exact h1, by rw [← sh]; exact h2⟩
        | true =>
          refine ⟨fun hq => ?_, fun _ => tB (Or.inl rfl)⟩
          have := hq 0 (by omega)
          simp only [Nat.zero_mul, Nat.add_zero] at this
          rw [hu] at this; cases this
theorem m_round_12 {w : Wd} {p : Nat} (hp0 : 1 ≤ p) (hp1 : p ≤ 30) (k4 : Int32 → Int32 → Wd → Option (Int32 × Wd)) : ∀ (n i : Nat) (m : Bool), i ≤ 30 → 30 - i < n →
    ((m = false ∧ ∀ j, i ≤ j → j < 30 → ∀ q, 1 ≤ q → j + q * p < 30 → unl (w.1 53) j (j + q * p) = false) → f_X10_roundOf_12 k4 n (nI p) (b2i m) (nI i) w = k4 (nI p) 0 w) ∧
    ((m = true ∨ ∃ j, i ≤ j ∧ j < 30 ∧ ∃ q, 1 ≤ q ∧ j + q * p < 30 ∧ unl (w.1 53) j (j + q * p) = true) → f_X10_roundOf_12 k4 n (nI p) (b2i m) (nI i) w = k4 (nI (p + 1)) 1 w) := by
  intro n
  induction n with
  | zero => intro i m _ h; omega
  | succ n ih =>
    intro i m hi hn
    rw [f_X10_roundOf_12]
    by_cases h : i = 30
    · subst h
      rw [if_pos (by decide), p1]
      refine ⟨fun hx => ?_, fun hx => ?_⟩
      · rw [hx.1, if_pos bz, show nI p + 0 = nI p from nI_add p 0]; rfl
      · rcases hx with rfl | ⟨j, h1, h2, _⟩
        · rw [if_neg bnz]; rfl
        · omega
    · rw [if_neg (n30 (by omega)), nI_add]
      obtain ⟨a, b⟩ := m_round_23 (w := w) (p := p) (i := i) hp0 hp1 (by omega) k4 (f_X10_roundOf_12 k4 n) fu (i + p) m (by omega) (Nat.lt_of_le_of_lt (by omega : 60 - (i + p) ≤ 60) (by decide))
      have sh : ∀ k, i + p + k * p = i + (k + 1) * p := fun k => by rw [Nat.succ_mul]; omega
      obtain ⟨iA, iB⟩ := ih (i + 1) m (by omega) (by omega)
      obtain ⟨tA, tB⟩ := ih (i + 1) true (by omega) (by omega)
      refine ⟨fun ⟨hm, hq⟩ => ?_, fun hx => ?_⟩
      · have e := a (fun k hk => by rw [sh] at hk ⊢; exact hq i (Nat.le_refl i) (by omega) (k + 1) (by omega) hk)
        exact e.trans (iA ⟨hm, fun j h1 => hq j (by omega)⟩)
      · by_cases hy : m = true ∨ ∃ k, i + p + k * p < 30 ∧ unl (w.1 53) i (i + p + k * p) = true
        · exact (b hy).trans (tB (Or.inl rfl))
        · have hm : ¬ m = true := fun z => hy (Or.inl z)
          have e := a (fun k hk => by
            cases hu : unl (w.1 53) i (i + p + k * p) with
            | false => rfl
            | true => exact absurd (Or.inr ⟨k, hk, hu⟩) hy)
          refine e.trans (iB ?_)
          rcases hx with h0 | ⟨j, h1, h2, q, h3, h4, h5⟩
          · exact absurd h0 hm
          · right
            refine ⟨j, ?_, h2, q, h3, h4, h5⟩
            rcases Nat.lt_or_ge i j with z | z
            · omega
            · have : j = i := by omega
              subst this
              exfalso
              apply hy
              right
              obtain ⟨k, rfl⟩ : ∃ k, q = k + 1 := ⟨q - 1, by omega⟩
              exact ⟨k, by rw [sh]; exact h4, by rw [sh]; exact h5⟩
theorem gd_all {h : Nat → Int32} {p : Nat} (hp : 1 ≤ p) : gd h p = true ↔ ∀ j, j < 30 → ∀ q, 1 ≤ q → j + q * p < 30 → unl h j (j + q * p) = false := by
  rw [gd_t]
  refine ⟨fun hg j hj q h1 h2 => hg j hj q ?_ h1 h2, fun hg j hj q _ h1 h2 => hg j hj q h1 h2⟩
  have : q * 1 ≤ q * p := Nat.mul_le_mul_left q hp
  omega
theorem m_round_4 {w : Wd} : ∀ (n p : Nat), 1 ≤ p → p ≤ 30 → (∀ q, 1 ≤ q → q < p → gd (w.1 53) q = false) → 31 - p < n → ∃ r, isR (w.1 53) r ∧ f_X10_roundOf_4 n (nI p) 1 w = some (nI r, w) := by
  intro n
  induction n with
  | zero => intro p _ _ _ h; omega
  | succ n ih =>
    intro p h1 hp hq hn
    rw [f_X10_roundOf_4, if_neg (by decide)]
    obtain ⟨a, b⟩ := m_round_12 (w := w) h1 hp (f_X10_roundOf_4 n) fu 0 false (by decide) (by decide)
    cases hg : gd (w.1 53) p with
    | true =>
      have e := a ⟨rfl, fun j _ hj q => (gd_all h1).mp hg j hj q⟩
      refine ⟨p, ⟨h1, hp, fun _ => hg, hq⟩, e.trans ?_⟩
      obtain ⟨m, rfl⟩ : ∃ m, n = m + 1 := ⟨n - 1, by omega⟩
      rw [f_X10_roundOf_4, if_pos rfl]
    | false =>
      have hx : ∃ j, 0 ≤ j ∧ j < 30 ∧ ∃ q, 1 ≤ q ∧ j + q * p < 30 ∧ unl (w.1 53) j (j + q * p) = true := by
        apply Classical.byContradiction
        intro hx
        have : gd (w.1 53) p = true := (gd_all h1).mpr (fun j hj q h2 h3 => by
          cases hu : unl (w.1 53) j (j + q * p) with
          | false => rfl
          | true => exact absurd ⟨j, Nat.zero_le _, hj, q, h2, h3, hu⟩ hx)
        rw [hg] at this; cases this
      have e := b (Or.inr hx)
      have hp30 : p < 30 := by
        obtain ⟨j, _, _, q, h2, h3, _⟩ := hx
        have : 1 * p ≤ q * p := Nat.mul_le_mul_right p h2
        omega
      obtain ⟨r, hr, er⟩ := ih (p + 1) (by omega) (by omega) (fun q h2 h3 => by
        rcases Nat.lt_or_ge q p with z | z
        · exact hq q h2 z
        · have : q = p := by omega
          subst this; exact hg) (by omega)
      exact ⟨r, hr, e.trans er⟩
theorem m_roundOf (w : Wd) : ∃ r, isR (w.1 53) r ∧ f_X10_roundOf w = some (nI r, w) := m_round_4 fu 1 (by decide) (by decide) (fun q a b => by omega) (by decide)
theorem op_round {w : Wd} (h : Rel w) : Agree f_X9_round f_X10_round w := by
  have r53 := h.e.2.2.2.2.2.2.2.2.2.2.2.2.2.2.1
  obtain ⟨r, hr, er⟩ := e_least w
  obtain ⟨q, hq, eq⟩ := m_roundOf w
  rw [r53] at hq
  have e := isR_one hr hq
  subst e
  exact ⟨nI r, w, w, by unfold f_X9_round; rw [er, Option.bind_some], by unfold f_X10_round; rw [eq, Option.bind_some], h⟩
