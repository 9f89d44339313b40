/-! heights -/
def hI (w : Wd) (t : Nat) : Int := if t < 14 ∧ bt (w.1 5 0) t = true then 1 else 0
def hn (w : Wd) (k n : Nat) : Nat → Int := psI (qX w) pT pU (paI (qX w) pT pU (hI w) k) n
theorem hn_s (w : Wd) (k n : Nat) : hn w k (n + 1) = stI (qX w) (hn w k n) (pT n) (pU n) := rfl
theorem hn_k (w : Wd) (k : Nat) : hn w k 196 = hn w (k + 1) 0 := by unfold hn; rw [psI_0, paI_s]
theorem hI_b (w : Wd) (t : Nat) : 0 ≤ hI w t ∧ hI w t ≤ 1 := by unfold hI; split <;> omega
theorem hn_b (w : Wd) {k n : Nat} (hk : k ≤ 15) (hn' : n ≤ 196) : sm2 (hn w k n) := by
  intro j
  have a1 := psI_bd (q := qX w) (pa := pT) (pb := pU) (paI_bd (q := qX w) (pa := pT) (pb := pU) (fun c => (hI_b w c).2) k) n j
  have a2 := paI_up (qX w) pT pU (hI w) k j
  have a3 := psI_up (qX w) pT pU (paI (qX w) pT pU (hI w) k) n j
  have a4 := (hI_b w j).1
  unfold hn
  omega
theorem hn_f {w : Wd} {k t u : Nat} (hu : u < 14) (h : bt (ruX w t) u = false) : hn w k (14 * t + u + 1) = hn w k (14 * t + u) := by
  rw [hn_s, pT_e hu, pU_e hu, stI_f (q := qX w) h]
def hS (w : Wd) (c k n : Nat) : Wd := wA w c (rwL p14 (hn w k n) (w.1 c))
theorem hS_k (w : Wd) (c k : Nat) : hS w c k 196 = hS w c (k + 1) 0 := by unfold hS; rw [hn_k]
theorem e_raise_2 {w : Wd} {k t : Nat} (hk : k ≤ 14) (ht : t < 14) : ∀ (n u : Nat), u ≤ 14 → 14 - u < n → f_X8_raise_2 n (nI t) (ruX w t) (nI u) (hS w 16 k (14 * t + u)) = some (hS w 16 k (14 * t + 14)) := by
  intro n
  induction n with
  | zero => intro u _ h; omega
  | succ n ih =>
    intro u hu hn'
    rw [f_X8_raise_2]
    by_cases hu14 : u = 14
    · subst hu14
      rw [if_pos (by decide)]
    · have hu' : u < 14 := by omega
      have i1 := ih (u + 1) (by omega) (by omega)
      rw [← Nat.add_assoc] at i1
      rw [if_neg (n14 hu')]
      by_cases h0 : ruX w t = 0
      · rw [if_pos h0]
        have hz : ∀ j, u + j ≤ 14 → hS w 16 k (14 * t + (u + j)) = hS w 16 k (14 * t + u) := by
          intro j
          induction j with
          | zero => intro _; rfl
          | succ j ihj =>
            intro hj
            rw [← ihj (by omega)]
            unfold hS
            rw [show 14 * t + (u + (j + 1)) = 14 * t + (u + j) + 1 by omega, hn_f (u := u + j) (by omega) (by rw [h0, b_0])]
        have := hz (14 - u) (by omega)
        rw [show u + (14 - u) = 14 by omega] at this
        rw [this]
      · rw [if_neg h0, e_has _ (by omega), Option.bind_some]
        dsimp only
        rw [p1]
        cases hb : bt (ruX w t) u with
        | false =>
          rw [if_pos bz]
          unfold hS at i1 ⊢
          rw [hn_f hu' hb] at i1
          exact i1
        | true =>
          rw [if_neg bnz, e_at (k := 16) (by decide) lay_16, Option.bind_some]
          dsimp only
          rw [e_at (k := 16) (by decide) lay_16, Option.bind_some]
          dsimp only
          rw [e_put (k := 16) (by decide) lay_16, Option.bind_some, atv_in ht (by decide), atv_in hu' (by decide), ptv_in ht (by decide)]
          unfold hS at i1 ⊢
          rw [wA_s, wA_wA, rwL_at (p14_t ht), rwL_at (p14_t hu'), tI_mx (hn_b w (by omega) (by omega)), rwL_up (p14_t ht)]
          rw [hn_s, pT_e hu', pU_e hu', stI_t (q := qX w) hb] at i1
          exact i1
def tkI (w : Wd) (base : Int) (k : Nat) : Nat → Int
  | 0 => base
  | t + 1 => mxI (tkI w base k t) (hn w k (14 * t + 14) t)
def tp (w : Wd) : Nat → Int
  | 0 => 0
  | k + 1 => tkI w (tp w k) k 14
theorem tkI_b {w : Wd} {base : Int} {k : Nat} (hk : k ≤ 14) (hb : -10000 ≤ base ∧ base ≤ 10000) : ∀ t, t ≤ 14 → -10000 ≤ tkI w base k t ∧ tkI w base k t ≤ 10000
  | 0, _ => hb
  | t + 1, ht => by
    have ih := tkI_b (w := w) hk hb t (by omega)
    have h2 := hn_b w (k := k) (n := 14 * t + 14) (by omega) (by omega) t
    rw [tkI]
    unfold mxI
    split <;> omega
theorem tp_b {w : Wd} : ∀ k, k ≤ 14 → -10000 ≤ tp w k ∧ tp w k ≤ 10000
  | 0, _ => by unfold tp; omega
  | k + 1, hk => tkI_b (by omega) (tp_b k (by omega)) 14 (Nat.le_refl _)
theorem tI_mx2 {a b : Int} (ha : -10000 ≤ a ∧ a ≤ 10000) (hb : -10000 ≤ b ∧ b ≤ 10000) : jmax (tI a) (tI b) = tI (mxI a b) := by
  unfold jmax mxI
  simp only [tI_lt (x := a) (y := b) (by unfold smI; omega) (by unfold smI; omega)]
  split <;> rfl
theorem e_meas_45 {w : Wd} {k : Nat} (hk : k ≤ 14) (k37 : Int32 → Int32 → Wd → Option (Int32 × Wd)) : ∀ (n t : Nat), t ≤ 14 → 14 - t < n → f_X8_measureHeights_45 k37 n (tI (tkI w (tp w k) k t)) (nI k) (nI t) (hS w 16 k (14 * t)) = k37 (tI (tp w (k + 1))) (nI (k + 1)) (hS w 16 (k + 1) 0) := by
  intro n
  induction n with
  | zero => intro u _ h; omega
  | succ n ih =>
    intro t ht hn'
    rw [f_X8_measureHeights_45]
    by_cases ht14 : t = 14
    · subst ht14
      rw [if_pos (by decide), p1]
      show k37 _ _ (hS w 16 k 196) = _
      rw [hS_k]
      rfl
    · rw [if_neg (n14 (by omega)), e_right (by omega), Option.bind_some]
      dsimp only
      rw [show ruX (hS w 16 k (14 * t)) t = ruX w t from ruX_w (wA_n _ _ (by decide)) (wA_n _ _ (by decide)) t]
      unfold f_X8_raise
      have := e_raise_2 (w := w) hk (show t < 14 by omega) fu 0 (by decide) (by decide)
      rw [Nat.add_zero] at this
      rw [show (0 : Int32) = nI 0 from rfl, this, Option.bind_some, e_at (k := 16) (by decide) lay_16, Option.bind_some, atv_in (by omega) (by decide), p1]
      dsimp only
      rw [show (hS w 16 k (14 * t + 14)).1 16 = _ from wA_s _ _ _, rwL_at (p14_t (by omega)), tI_mx2 (tkI_b hk (tp_b k hk) t ht) (hn_b w (by omega) (by omega) t)]
      exact ih (t + 1) (by omega) (by omega)
theorem e_meas_37 {w : Wd} : ∀ (n k : Nat), k ≤ 14 → 14 - k < n → f_X8_measureHeights_37 n (tI (tp w k)) (nI k) (hS w 16 k 0) = some (tI (tp w 14), hS w 16 14 0) := by
  intro n
  induction n with
  | zero => intro u _ h; omega
  | succ n ih =>
    intro k hk hn'
    rw [f_X8_measureHeights_37]
    by_cases hk14 : k = 14
    · subst hk14
      rw [if_pos (by decide)]
    · rw [if_neg (n14 (by omega))]
      have := e_meas_45 (w := w) hk (f_X8_measureHeights_37 n) fu 0 (by decide) (by decide)
      exact this.trans (ih (k + 1) (by omega) (by omega))
theorem hS_00 (w : Wd) (c : Nat) : wA w c (pfR (fun t => b2i (bt (w.1 5 0) t)) (w.1 c) 14) = hS w c 0 0 := by
  unfold hS
  congr 1
  funext j
  unfold pfR rwL p14
  by_cases h : j < 14
  · rw [if_pos h, decide_eq_true h, if_pos rfl]
    show _ = tI (hI w j)
    unfold hI
    cases hb : bt (w.1 5 0) j with
    | false => rw [if_neg (fun z => by cases z.2)]; show b2i (bt (w.1 5 0) j) = tI 0; rw [hb]; rfl
    | true => rw [if_pos ⟨h, rfl⟩]; show b2i (bt (w.1 5 0) j) = tI 1; rw [hb]; rfl
  · rw [if_neg h, decide_eq_false h, if_neg (by decide)]
theorem e_meas_2 {w : Wd} : ∀ (n i : Nat), i ≤ 14 → 14 - i < n → f_X8_measureHeights_2 n (nI i) (wA w 16 (pfR (fun t => b2i (bt (w.1 5 0) t)) (w.1 16) i)) = some (tI (tp w 14), hS w 16 14 0) := by
  intro n
  induction n with
  | zero => intro u _ h; omega
  | succ n ih =>
    intro i hi hn'
    rw [f_X8_measureHeights_2]
    by_cases h14 : i = 14
    · subst h14
      rw [if_pos (by decide), hS_00]
      exact e_meas_37 fu 0 (by decide) (by decide)
    · rw [if_neg (n14 (by omega)), e_isThing, Option.bind_some, wA_n _ _ (by decide)]
      dsimp only
      rw [show isT 13 (w.1 5 0) (nI i) = bt (w.1 5 0) i from nI_isT (n := 13) (by omega) (by decide), e_oneIf, Option.bind_some]
      dsimp only
      rw [e_put (k := 16) (by decide) lay_16, Option.bind_some, ptv_in (by omega) (by decide), wA_s, wA_wA, p1]
      rw [show upd (pfR (fun t => b2i (bt (w.1 5 0) t)) (w.1 16) i) i (b2i (bt (w.1 5 0) i)) = _ from pfR_s (fun t => b2i (bt (w.1 5 0) t)) (w.1 16) i]
      exact ih (i + 1) (by omega) (by omega)
theorem e_measure (w : Wd) : f_X8_measureHeights w = some (tI (tp w 14), hS w 16 14 0) := by
  unfold f_X8_measureHeights
  have := e_meas_2 (w := w) fu 0 (by decide) (by decide)
  rw [pfR_0, wA_self] at this
  exact this
/-- the reference's -/
theorem m_st_73 {w : Wd} (h : Rel w) {k t : Nat} (hk : k ≤ 14) (ht : t < 14) (x1 x2 : Int32) (k54 : Int32 → Int32 → Int32 → Wd → Option (Int32 × Wd)) (k63 : Int32 → Int32 → Int32 → Int32 → Wd → Option (Int32 × Wd)) : ∀ (n u : Nat), u ≤ 14 → 14 - u < n → f_X10_stack_73 k54 k63 n x1 x2 (nI k) (nI t) (nI u) (hS w 48 k (14 * t + u)) = k63 x1 x2 (nI k) (nI (t + 1)) (hS w 48 k (14 * t + 14)) := by
  intro n
  induction n with
  | zero => intro u _ h; omega
  | succ n ih =>
    intro u hu hn'
    rw [f_X10_stack_73]
    by_cases hu14 : u = 14
    · subst hu14
      rw [if_pos (by decide), p1]
    · have hu' : u < 14 := by omega
      have i1 := ih (u + 1) (by omega) (by omega)
      rw [← Nat.add_assoc] at i1
      have sm : sim w (hS w 48 k (14 * t + u)) := (sim.rf w).wA _ (fun j e => by cases e)
      have hz := h.sim sm
      rw [if_neg (n14 hu'), m_isPair hz.told hz.e.2.2.2.2.2.2.2.2.2.2.1 ht hu', Option.bind_some]
      dsimp only
      unfold f_X10_stack_128
      simp only [inB_nI ht (show 14 < 2 ^ 31 by decide), inB_nI hu' (show 14 < 2 ^ 31 by decide), ix_nI (show t < 2 ^ 31 by omega), ix_nI (show u < 2 ^ 31 by omega), if_true, wS_d, p1]
      rw [show ruX (hS w 48 k (14 * t + u)) t = ruX w t from ruX_w (wA_n _ _ (by decide)) (wA_n _ _ (by decide)) t, show (hS w 48 k (14 * t + u)).1 48 = rwL p14 (hn w k (14 * t + u)) (w.1 48) from wA_s _ _ _, fa_upd_same rfl, rwL_at (p14_t ht), rwL_at (p14_t hu'), tI_1, rwL_up (p14_t ht)]
      unfold hS at i1 ⊢
      rw [wA_wA, wA_wA]
      cases hb : bt (ruX w t) u with
      | false =>
        rw [if_pos bz]
        rw [hn_f hu' hb] at i1
        exact i1
      | true =>
        rw [if_neg bnz]
        rw [hn_s, pT_e hu', pU_e hu', stI_t (q := qX w) hb] at i1
        have b1 := hn_b w (show k ≤ 15 by omega) (show 14 * t + u ≤ 196 by omega) t
        have b2 := hn_b w (show k ≤ 15 by omega) (show 14 * t + u ≤ 196 by omega) u
        simp only [tI_le (x := hn w k (14 * t + u) u + 1) (y := hn w k (14 * t + u) t) (by unfold smI; omega) (by unfold smI; omega)]
        by_cases c : hn w k (14 * t + u) u + 1 ≤ hn w k (14 * t + u) t
        · rw [if_pos c]
          rw [mxI_e c] at i1
          have z : uI (hn w k (14 * t + u)) t (hn w k (14 * t + u) t) = hn w k (14 * t + u) := by
            funext j; unfold uI; split
            · rename_i e; rw [e]
            · rfl
          rw [z] at i1
          exact i1
        · rw [if_neg c]
          rw [show mxI (hn w k (14 * t + u) t) (hn w k (14 * t + u) u + 1) = hn w k (14 * t + u) u + 1 by unfold mxI; rw [if_pos (by omega)]] at i1
          exact i1
theorem m_st_63 {w : Wd} (h : Rel w) {k : Nat} (hk : k ≤ 14) (x1 x2 : Int32) (k54 : Int32 → Int32 → Int32 → Wd → Option (Int32 × Wd)) : ∀ (n t : Nat), t ≤ 14 → 14 - t < n → f_X10_stack_63 k54 n x1 x2 (nI k) (nI t) (hS w 48 k (14 * t)) = k54 x1 x2 (nI (k + 1)) (hS w 48 (k + 1) 0) := by
  intro n
  induction n with
  | zero => intro u _ h; omega
  | succ n ih =>
    intro t ht hn'
    rw [f_X10_stack_63]
    by_cases ht14 : t = 14
    · subst ht14
      rw [if_pos (by decide), p1]
      show k54 _ _ _ (hS w 48 k 196) = _
      rw [hS_k]
    · rw [if_neg (n14 (by omega))]
      have := m_st_73 h hk (show t < 14 by omega) x1 x2 k54 (f_X10_stack_63 k54 n) fu 0 (by decide) (by decide)
      rw [Nat.add_zero] at this
      exact this.trans (ih (t + 1) (by omega) (by omega))
theorem m_st_54 {w : Wd} (h : Rel w) (x1 x2 : Int32) : ∀ (n k : Nat), k ≤ 14 → 14 - k < n → f_X10_stack_54 n x1 x2 (nI k) (hS w 48 k 0) = f_X10_stack_156 fu x1 x2 0 (hS w 48 14 0) := by
  intro n
  induction n with
  | zero => intro u _ h; omega
  | succ n ih =>
    intro k hk hn'
    rw [f_X10_stack_54]
    by_cases hk14 : k = 14
    · subst hk14
      rw [if_pos (by decide)]
    · rw [if_neg (n14 (by omega))]
      have := m_st_63 h hk x1 x2 (f_X10_stack_54 n) fu 0 (by decide) (by decide)
      exact this.trans (ih (k + 1) (by omega) (by omega))
theorem m_st_21 {w : Wd} (h : Rel w) (x1 x2 : Int32) : ∀ (n i : Nat), i ≤ 14 → 14 - i < n → f_X10_stack_21 n x1 x2 (nI i) (wA w 48 (pfR (fun t => b2i (bt (w.1 5 0) t)) (w.1 48) i)) = f_X10_stack_156 fu x1 x2 0 (hS w 48 14 0) := by
  intro n
  induction n with
  | zero => intro u _ h; omega
  | succ n ih =>
    intro i hi hn'
    rw [f_X10_stack_21]
    by_cases h14 : i = 14
    · subst h14
      rw [if_pos (by decide), hS_00]
      exact m_st_54 h x1 x2 fu 0 (by decide) (by decide)
    · have i1 := ih (i + 1) (by omega) (by omega)
      rw [← pfR_s] at i1
      rw [if_neg (n14 (by omega)), m_isThing, Option.bind_some, wA_n _ _ (by decide), h.told]
      dsimp only
      rw [show isT 13 (w.1 5 0) (nI i) = bt (w.1 5 0) i from nI_isT (n := 13) (by omega) (by decide), inB_nI (by omega) (by decide), if_pos rfl, if_pos rfl, ix_nI (by omega), wS_d, wS_d, wA_s, wA_wA, wA_wA, p1]
      cases hb : bt (w.1 5 0) i with
      | false =>
        rw [if_pos bz]
        rw [hb] at i1
        exact i1
      | true =>
        rw [if_neg bnz]
        rw [hb] at i1
        exact i1
theorem m_heights {w : Wd} (h : Rel w) (x1 : Int32) : f_X10_stack_21 fu x1 (-1) 0 w = f_X10_stack_156 fu x1 (-1) 0 (hS w 48 14 0) := by
  have := m_st_21 h x1 (-1) fu 0 (by decide) (by decide)
  rw [pfR_0, wA_self] at this
  exact this
