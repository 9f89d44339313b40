/-! erase, holder, picture, shows, bundle, covers -/
theorem Rel.e {w : Wd} (h : Rel w) : RE w := h.1
theorem Rel.n {w : Wd} (h : Rel w) : RN w := h.2.2.2.2
theorem op_erase {w : Wd} (h : Rel w) : Agree f_X9_erase f_X10_erase w := by
  obtain ⟨he, -, -, -, hn⟩ := id h
  refine ⟨w.1 1 1, wS w 1 1 0, wS (wS w 1 1 0) 33 15 0, rfl, ?_, ?_⟩
  · show some ((wS w 1 1 0).1 33 15, _) = _
    rw [wA_n _ _ (by decide), he.2.2.2.2.2.1]
  · refine h.tx (((simX.rf _ w).st _ ?_).st _ ?_) ?_ ?_ ?_ ?_
    · intro j _ e
      simp only [E_tx, decide_eq_false_iff_not] at e
      exact pk_un e
    · intro j _ e
      simp only [E_tx, decide_eq_false_iff_not] at e
      exact pk_un e
    · rw [wA_s, pk_us, wA_n _ _ (by decide), wA_s, pk_us]
    · rw [wA_n _ _ (by decide), wA_n _ _ (by decide), wA_n _ _ (by decide), wA_n _ _ (by decide)]
      exact he.2.2.2.2.2.2.2.1
    · rw [wA_n _ _ (by decide), wA_s, pk_us]
      exact nb_0
    · rw [wA_n _ _ (by decide), wA_n _ _ (by decide)]
      exact hn.2.2.2.2.2.2.1
theorem op_holder (p0 p1 : Int32) {w : Wd} (h : Rel w) : Agree (f_X9_holder p0 p1) (f_X10_holder p0 p1) w := by
  obtain ⟨he, -, -, -, hn⟩ := id h
  have h53 := he.2.2.2.2.2.2.2.2.2.2.2.2.2.2.1
  unfold Agree f_X9_holder f_X10_holder
  simp only [e_within, e_in, Option.bind_some, b2i_0]
  cases h1 : wi p0 0 29 with
  | false => exact ⟨-3, w, w, rfl, rfl, h⟩
  | true =>
    cases h2 : wi p1 (-1) 9 with
    | false => exact ⟨-3, w, w, rfl, rfl, h⟩
    | true =>
      obtain ⟨j, hj, rfl⟩ := wi_nI (n := 29) (by decide) h1
      refine ⟨w.1 28 j, wS w 28 j p1, wS (wS w 28 j p1) 53 j p1, ?_, ?_, ?_⟩
      · unfold f_X7_tell
        simp only [e_at (k := 28) (by decide) lay_28, e_put (k := 28) (by decide) lay_28, Option.bind_some, atv_in (show j < 30 by omega) (by decide), ptv_in (show j < 30 by omega) (by decide)]
        rfl
      · simp only [inB_nI (show j < 30 by omega) (by decide), ix_nI (show j < 2 ^ 31 by omega), if_true]
        simp only [wA_n (k := 28) (a := 53) _ _ (by decide), h53]
        rfl
      · refine h.ho (((simX.rf _ w).all _ (fun _ => rfl)).all _ (fun _ => rfl)) ?_
        rw [wA_s, wA_n _ _ (by decide), wA_n _ _ (by decide), wA_s, h53]
