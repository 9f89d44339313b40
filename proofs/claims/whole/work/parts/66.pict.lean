/-! picture, shows -/
theorem Rel.npic {w : Wd} (h : Rel w) : ∃ n : Nat, n ≤ 8 ∧ w.1 29 4 = nI n ∧ w.1 33 35 = nI n := by
  obtain ⟨n, -, hn, e⟩ := h.n.2.2.2.2.2.2.2.2.2.2.2.2.1
  exact ⟨n, hn, e, by rw [h.e.2.2.2.2.2.2.1, e]⟩
theorem wi_nb {p : Int32} {n : Nat} (hn : n < 2 ^ 31) (h : wi p 0 (nI n) = true) : nb p 0 n := by
  obtain ⟨j, hj, rfl⟩ := wi_nI hn h
  exact ⟨j, by omega, hj, rfl⟩
theorem bt_small {n k i : Nat} (hn : n < 2 ^ k) (h : bt (nI n) i = true) : i < k := by
  unfold bt at h
  have h1 : (nI n).toBitVec = BitVec.ofNat 32 n := rfl
  rw [h1, BitVec.getLsbD_ofNat] at h
  simp only [Bool.and_eq_true, decide_eq_true_eq] at h
  rcases Nat.lt_or_ge i k with q | q
  · exact q
  · have := Nat.testBit_lt_two_pow (x := n) (i := i) (Nat.lt_of_lt_of_le hn (Nat.pow_le_pow_right (by decide) q))
    rw [this] at h; cases h.2
theorem op_picture (p0 p1 p2 : Int32) {w : Wd} (h : Rel w) : Agree (f_X9_picture p0 p1 p2) (f_X10_picture p0 p1 p2) w := by
  obtain ⟨he, -, -, -, hn⟩ := id h
  obtain ⟨n, hn8, e1, e2⟩ := h.npic
  obtain ⟨r54, r55, r56⟩ := he.2.2.2.2.2.2.2.2.2.2.2.2.2.2.2
  unfold Agree f_X9_picture f_X10_picture
  simp only [e_within, e_in, Option.bind_some, b2i_0]
  cases h1 : wi p0 0 1 with
  | false => exact ⟨-3, w, w, rfl, rfl, h⟩
  | true =>
    cases h2 : wi p1 0 60 with
    | false => exact ⟨-3, w, w, rfl, rfl, h⟩
    | true =>
      cases h3 : wi p2 0 255 with
      | false => exact ⟨-3, w, w, rfl, rfl, h⟩
      | true =>
        simp only [reduceCtorEq, if_false, Bool.true_eq_false]
        unfold f_X2_add
        by_cases h8 : n = 8
        · subst h8
          refine ⟨-5, w, w, ?_, ?_, h⟩
          · rw [e1]; rfl
          · rw [e2]; rfl
        · have hlt : nI n < 8 := nI_lt (b := 8) (by omega) (by decide)
          have hne : ¬ nI n = 8 := fun e => h8 ((nI_eq (b := 8) (by omega) (by decide)).mp e)
          have hi : inB (nI n) 8 = true := inB_nI (by omega) (by decide)
          have hx : ix (nI n) = n := ix_nI (by omega)
          have ha : nI n + 1 = nI (n + 1) := nI_1 n
          refine ⟨nI (n + 1), wA (wA (wA (wA w 30 (upd (w.1 30) n p0)) 31 (upd (w.1 31) n p1)) 32 (upd (w.1 32) n p2)) 29 (upd (w.1 29) 4 (nI (n + 1))), wA (wA (wA (wA (wA (wA (wA (wA w 30 (upd (w.1 30) n p0)) 31 (upd (w.1 31) n p1)) 32 (upd (w.1 32) n p2)) 29 (upd (w.1 29) 4 (nI (n + 1)))) 54 (upd (w.1 54) n p0)) 55 (upd (w.1 55) n p1)) 56 (upd (w.1 56) n p2)) 33 (upd (w.1 33) 35 (nI (n + 1))), ?_, ?_, ?_⟩
          · simp only [e_put (k := 30) (by decide) lay_30, e_put (k := 31) (by decide) lay_31, e_put (k := 32) (by decide) lay_32, Option.bind_some, wA_n (k := 30) (a := 29) _ _ (by decide), wA_n (k := 30) (a := 31) _ _ (by decide), wA_n (k := 31) (a := 29) _ _ (by decide), wA_n (k := 31) (a := 32) _ _ (by decide), wA_n (k := 30) (a := 32) _ _ (by decide), wA_n (k := 32) (a := 29) _ _ (by decide), e1, hlt, if_true, ptv_in (show n < 8 by omega) (show 8 < 2 ^ 31 by decide), ha]
            simp only [wA_s, pk_us]
            rfl
          · simp only [wA_n (k := 29) (a := 33) _ _ (by decide), wA_n (k := 32) (a := 33) _ _ (by decide), wA_n (k := 31) (a := 33) _ _ (by decide), wA_n (k := 30) (a := 33) _ _ (by decide), wA_n (k := 54) (a := 33) _ _ (by decide), wA_n (k := 55) (a := 33) _ _ (by decide), wA_n (k := 56) (a := 33) _ _ (by decide), e2, hne, if_false, hi, if_true, hx, ha, wA_s, pk_us, wA_n (k := 29) (a := 54) _ _ (by decide), wA_n (k := 32) (a := 54) _ _ (by decide), wA_n (k := 31) (a := 54) _ _ (by decide), wA_n (k := 30) (a := 54) _ _ (by decide), wA_n (k := 29) (a := 55) _ _ (by decide), wA_n (k := 32) (a := 55) _ _ (by decide), wA_n (k := 31) (a := 55) _ _ (by decide), wA_n (k := 30) (a := 55) _ _ (by decide), wA_n (k := 54) (a := 55) _ _ (by decide), wA_n (k := 29) (a := 56) _ _ (by decide), wA_n (k := 32) (a := 56) _ _ (by decide), wA_n (k := 31) (a := 56) _ _ (by decide), wA_n (k := 30) (a := 56) _ _ (by decide), wA_n (k := 54) (a := 56) _ _ (by decide), wA_n (k := 55) (a := 56) _ _ (by decide)]
            rfl
          · have hd : ∀ (g : Nat → Int32) (v : Wd) (a j : Nat) (x : Int32), v.1 a = g → E_pi a j = false → (∀ j, E_pi a j = decide (j = 4) ∨ True) → True := fun _ _ _ _ _ _ _ _ => trivial
            refine h.pi ((((((((simX.rf _ w).all _ (fun _ => rfl)).all _ (fun _ => rfl)).all _ (fun _ => rfl)).st _ ?_).all _ (fun _ => rfl)).all _ (fun _ => rfl)).all _ (fun _ => rfl) |>.st _ ?_) ?_ ?_ ?_ ?_ ?_ ?_
            · intro j _ e
              simp only [E_pi, decide_eq_false_iff_not] at e
              rw [pk_un e]; rfl
            · intro j _ e
              simp only [E_pi, decide_eq_false_iff_not] at e
              rw [pk_un e]; rfl
            · show upd (w.1 33) 35 (nI (n + 1)) 35 = upd (w.1 29) 4 (nI (n + 1)) 4
              rw [pk_us, pk_us]
            · show upd (w.1 54) n p0 = upd (w.1 30) n p0
              rw [r54]
            · show upd (w.1 55) n p1 = upd (w.1 31) n p1
              rw [r55]
            · show upd (w.1 56) n p2 = upd (w.1 32) n p2
              rw [r56]
            · show nb (upd (w.1 29) 4 (nI (n + 1)) 4) 0 8
              rw [pk_us]; exact ⟨n + 1, by omega, by omega, rfl⟩
            · intro p hp
              show nb (upd (w.1 30) n p0 p) 0 1 ∧ nb (upd (w.1 31) n p1 p) 0 60 ∧ ∀ i, bt (upd (w.1 32) n p2 p) i = true → i < 8
              by_cases hpn : p = n
              · subst hpn
                rw [pk_us, pk_us, pk_us]
                obtain ⟨m, hm, rfl⟩ := wi_nI (n := 255) (by decide) h3
                exact ⟨wi_nb (n := 1) (by decide) h1, wi_nb (n := 60) (by decide) h2, fun i hi => bt_small (k := 8) (by omega) hi⟩
              · rw [pk_un hpn, pk_un hpn, pk_un hpn]
                exact hn.2.2.2.2.2.2.2.2.2.2.2.2.2 p hp
/-- whether a picture should show a bundle -/
def shw (w : Wd) (p b : Nat) : Bool := decide (w.1 6 (9 * b + 2) ≠ w.1 30 p) && decide (w.1 31 p ≤ w.1 6 (9 * b + 8))
theorem e_shouldShow {p b : Nat} (hp : p < 8) (hb : b < 8) (w : Wd) : f_X2_shouldShow (nI p) (nI b) w = some (b2i (shw w p b), w) := by
  unfold f_X2_shouldShow
  have e2 := e_part (b := b) (k := 2) hb (by decide) w
  have e8 := e_part (b := b) (k := 8) hb (by decide) w
  rw [show f_X0_part (nI b) 2 w = _ from e2]
  show Option.bind (f_X9_at 30 (nI p) w) _ = _
  rw [e_at (k := 30) (by decide) lay_30, atv_in hp (by decide)]
  show (if w.1 6 (9 * b + 2) = w.1 30 p then _ else _) = _
  unfold shw
  by_cases h : w.1 6 (9 * b + 2) = w.1 30 p
  · rw [if_pos h]; simp [h, b2i]
  · rw [if_neg h]
    show Option.bind (f_X0_part (nI b) 8 w) _ = _
    rw [show f_X0_part (nI b) 8 w = _ from e8]
    show Option.bind (f_X9_at 31 (nI p) w) _ = _
    rw [e_at (k := 31) (by decide) lay_31, atv_in hp (by decide)]
    show (if w.1 6 (9 * b + 8) < w.1 31 p then _ else _) = _
    by_cases h2 : w.1 6 (9 * b + 8) < w.1 31 p
    · rw [if_pos h2]
      have : ¬ w.1 31 p ≤ w.1 6 (9 * b + 8) := by rw [fa_le]; rw [fa_lt] at h2; omega
      simp [this, b2i]
    · rw [if_neg h2]
      simp [h, fa_of_nlt h2, b2i]
theorem m_doesShow {p b : Nat} (hp : p < 8) (hb : b < 8) {w : Wd} (h : Rel w) : f_X10_doesShow (nI p) (nI b) w = some (b2i (shw w p b), w) := by
  obtain ⟨r54, r55, r56⟩ := h.e.2.2.2.2.2.2.2.2.2.2.2.2.2.2.2
  unfold f_X10_doesShow
  have e0 := m_of (b := b) (k := 0) hb (by decide) w
  have e6 := m_of (b := b) (k := 6) hb (by decide) w
  rw [show f_X10_of (nI b) 0 w = _ from e0]
  simp only [Option.bind_some, inB_nI hp (show 8 < 2 ^ 31 by decide), ix_nI (show p < 2 ^ 31 by omega), if_true, h.of hb (show 0 < 7 by decide), r54]
  unfold shw
  by_cases h1 : w.1 6 (9 * b + (0 + 2)) = w.1 30 p
  · rw [if_pos h1]
    have h1' : w.1 6 (9 * b + 2) = w.1 30 p := h1
    simp [h1', b2i]
  · rw [if_neg h1]
    have h1' : ¬ w.1 6 (9 * b + 2) = w.1 30 p := h1
    rw [show f_X10_of (nI b) 6 w = _ from e6]
    simp only [Option.bind_some, h.of hb (show 6 < 7 by decide), r55]
    by_cases h2 : w.1 6 (9 * b + (6 + 2)) < w.1 31 p
    · rw [if_pos h2]
      have h2' : w.1 6 (9 * b + 8) < w.1 31 p := h2
      have : ¬ w.1 31 p ≤ w.1 6 (9 * b + 8) := by rw [fa_le]; have := (fa_lt _ _).mp h2'; omega
      simp [this, b2i]
    · rw [if_neg h2]
      have h2' : w.1 31 p ≤ w.1 6 (9 * b + 8) := fa_of_nlt h2
      simp [h1', h2', b2i]
theorem op_shows (p0 p1 : Int32) {w : Wd} (h : Rel w) : Agree (f_X9_shows p0 p1) (f_X10_shows p0 p1) w := by
  obtain ⟨n, hn8, e1, e2⟩ := h.npic
  unfold Agree f_X9_shows f_X10_shows
  simp only [e_within, e_in, Option.bind_some, b2i_0, e1, e2]
  cases h1 : wi p0 0 (nI n - 1) with
  | false => exact ⟨-2, w, w, rfl, by rw [e2, h1]; rfl, h⟩
  | true =>
    have hp : ∃ p, p < 8 ∧ p0 = nI p := by
      rcases Nat.eq_zero_or_pos n with rfl | hpos
      · exfalso
        unfold wi at h1
        simp only [Bool.and_eq_true, decide_eq_true_eq, fa_le] at h1
        have : (nI 0 - 1).toInt = -1 := by decide
        have z : (0 : Int32).toInt = 0 := by decide
        omega
      · have : nI n - 1 = nI (n - 1) := by
          obtain ⟨m, rfl⟩ : ∃ m, n = m + 1 := ⟨n - 1, by omega⟩
          rw [nI_pred]; rfl
        rw [this] at h1
        obtain ⟨p, hp, e⟩ := wi_nI (by omega) h1
        exact ⟨p, by omega, e⟩
    obtain ⟨p, hp, rfl⟩ := hp
    simp only [e_isBundle, m_isBundle, Option.bind_some, b2i_0]
    cases h3 : isT 7 (w.1 5 0) p1 with
    | false => exact ⟨-2, w, w, rfl, by rw [e2, h1, h.told, h3]; rfl, h⟩
    | true =>
      obtain ⟨b, hb, rfl, -⟩ := isT_nI (n := 7) (by decide) h3
      refine ⟨b2i (shw w p b), w, w, ?_, ?_, h⟩
      · show Option.bind (f_X2_shouldShow (nI p) (nI b) w) _ = _
        rw [e_shouldShow hp (by omega)]
        show Option.bind (f_X9_oneIf _ w) _ = _
        rw [e_oneIf]; rfl
      · rw [e2, h1, h.told, h3]
        show Option.bind (f_X10_doesShow (nI p) (nI b) w) _ = _
        rw [m_doesShow hp (by omega) h]
        cases shw w p b <;> rfl
