/-! the law's loop -/
set_option maxRecDepth 100000 in
set_option maxHeartbeats 8000000 in
theorem law_all (xs : Nat → Int32) {Ls : Nat} (hL : Ls ≤ 256) : ∀ (n i : Nat) (w : Wd), Rel w → i ≤ Ls → Ls < i + 4 * n → ∃ w', f_L_law_18 xs Ls n (nI i) w = some (1, w') := by
  intro n
  induction n with
  | zero => intro i w _ h1 h2; omega
  | succ n ih =>
    intro i w hw h1 h2
    have e4 : nI Ls - 4 = tI ((Ls : Int) - 4) := by rw [← tI_nI]; exact tI_sub (Ls : Int) 4
    have ei : nI i = tI (i : Int) := (tI_nI i).symm
    rw [f_L_law_18]
    by_cases c : (Ls : Int) - 4 < i
    · rw [if_pos (show nI Ls - 4 < nI i by rw [e4, ei, tI_lt (by unfold smI; omega) (by unfold smI; omega)]; exact c)]
      exact ⟨w, rfl⟩
    · have k0 : inB (nI i) Ls = true := inB_nI (by omega) (by omega)
      have k1 : inB (nI i + 1) Ls = true := by rw [show nI i + 1 = nI (i + 1) from nI_add i 1]; exact inB_nI (by omega) (by omega)
      have k2 : inB (nI i + 2) Ls = true := by rw [show nI i + 2 = nI (i + 2) from nI_add i 2]; exact inB_nI (by omega) (by omega)
      have k3 : inB (nI i + 3) Ls = true := by rw [show nI i + 3 = nI (i + 3) from nI_add i 3]; exact inB_nI (by omega) (by omega)
      have nx : ∀ v, Rel v → ∃ w', f_L_law_18 xs Ls n (nI i + 4) v = some (1, w') := fun v hv => by
        rw [show nI i + 4 = nI (i + 4) from nI_add i 4]
        exact ih (i + 4) v hv (by omega) (by omega)
      rw [if_neg (show ¬ nI Ls - 4 < nI i by rw [e4, ei, tI_lt (by unfold smI; omega) (by unfold smI; omega)]; exact c), if_pos k0]
      by_cases c0 : xs (ix (nI i)) &&& 31 = 0
      · obtain ⟨a, w1, w2, a1, a2, r2⟩ := op_write ((jlshl (Int32.toInt64 (xs (ix (nI i + 1)))) 32) ||| ((Int32.toInt64 (xs (ix (nI i + 2)))) &&& 4294967295)) (xs (ix (nI i + 3))) hw
        rw [if_pos c0, if_pos k1, if_pos k2, if_pos k3, a1, Option.bind_some]
        dsimp only
        rw [if_pos k1, if_pos k2, if_pos k3, a2, Option.bind_some]
        dsimp only
        rw [if_pos rfl]
        exact nx w2 r2
      rw [if_neg c0]
      by_cases c1 : xs (ix (nI i)) &&& 31 = 1
      · obtain ⟨a, w1, w2, a1, a2, r2⟩ := op_erase hw
        rw [if_pos c1, a1, Option.bind_some]
        dsimp only
        rw [a2, Option.bind_some]
        dsimp only
        rw [if_pos rfl]
        exact nx w2 r2
      rw [if_neg c1]
      by_cases c2 : xs (ix (nI i)) &&& 31 = 2
      · obtain ⟨a, w1, w2, a1, a2, r2⟩ := op_fault hw
        rw [if_pos c2, a1, Option.bind_some]
        dsimp only
        rw [a2, Option.bind_some]
        dsimp only
        rw [if_pos rfl]
        exact nx w2 r2
      rw [if_neg c2]
      by_cases c3 : xs (ix (nI i)) &&& 31 = 3
      · obtain ⟨a, w1, w2, a1, a2, r2⟩ := op_parish hw
        rw [if_pos c3, a1, Option.bind_some]
        dsimp only
        rw [a2, Option.bind_some]
        dsimp only
        rw [if_pos rfl]
        exact nx w2 r2
      rw [if_neg c3]
      by_cases c4 : xs (ix (nI i)) &&& 31 = 4
      · obtain ⟨a, w1, w2, a1, a2, r2⟩ := op_bundle (xs (ix (nI i + 1))) (xs (ix (nI i + 2))) hw
        rw [if_pos c4, if_pos k1, if_pos k2, a1, Option.bind_some]
        dsimp only
        rw [if_pos k1, if_pos k2, a2, Option.bind_some]
        dsimp only
        rw [if_pos rfl]
        exact nx w2 r2
      rw [if_neg c4]
      by_cases c5 : xs (ix (nI i)) &&& 31 = 5
      · obtain ⟨a, w1, w2, a1, a2, r2⟩ := op_covers (xs (ix (nI i + 1))) (xs (ix (nI i + 2))) hw
        rw [if_pos c5, if_pos k1, if_pos k2, a1, Option.bind_some]
        dsimp only
        rw [if_pos k1, if_pos k2, a2, Option.bind_some]
        dsimp only
        rw [if_pos rfl]
        exact nx w2 r2
      rw [if_neg c5]
      by_cases c6 : xs (ix (nI i)) &&& 31 = 6
      · obtain ⟨a, w1, w2, a1, a2, r2⟩ := op_teams (xs (ix (nI i + 1))) hw
        rw [if_pos c6, if_pos k1, a1, Option.bind_some]
        dsimp only
        rw [if_pos k1, a2, Option.bind_some]
        dsimp only
        rw [if_pos rfl]
        exact nx w2 r2
      rw [if_neg c6]
      by_cases c7 : xs (ix (nI i)) &&& 31 = 7
      · obtain ⟨a, w1, w2, a1, a2, r2⟩ := op_span (xs (ix (nI i + 1))) (xs (ix (nI i + 2))) hw
        rw [if_pos c7, if_pos k1, if_pos k2, a1, Option.bind_some]
        dsimp only
        rw [if_pos k1, if_pos k2, a2, Option.bind_some]
        dsimp only
        rw [if_pos rfl]
        exact nx w2 r2
      rw [if_neg c7]
      by_cases c8 : xs (ix (nI i)) &&& 31 = 8
      · obtain ⟨a, w1, w2, a1, a2, r2⟩ := op_ring hw
        rw [if_pos c8, a1, Option.bind_some]
        dsimp only
        rw [a2, Option.bind_some]
        dsimp only
        rw [if_pos rfl]
        exact nx w2 r2
      rw [if_neg c8]
      by_cases c9 : xs (ix (nI i)) &&& 31 = 9
      · obtain ⟨a, w1, w2, a1, a2, r2⟩ := op_stack (xs (ix (nI i + 1))) hw
        rw [if_pos c9, if_pos k1, a1, Option.bind_some]
        dsimp only
        rw [if_pos k1, a2, Option.bind_some]
        dsimp only
        rw [if_pos rfl]
        exact nx w2 r2
      rw [if_neg c9]
      by_cases c10 : xs (ix (nI i)) &&& 31 = 10
      · obtain ⟨a, w1, w2, a1, a2, r2⟩ := op_over (xs (ix (nI i + 1))) (xs (ix (nI i + 2))) hw
        rw [if_pos c10, if_pos k1, if_pos k2, a1, Option.bind_some]
        dsimp only
        rw [if_pos k1, if_pos k2, a2, Option.bind_some]
        dsimp only
        rw [if_pos rfl]
        exact nx w2 r2
      rw [if_neg c10]
      by_cases c11 : xs (ix (nI i)) &&& 31 = 11
      · obtain ⟨a, w1, w2, a1, a2, r2⟩ := op_joined (xs (ix (nI i + 1))) (xs (ix (nI i + 2))) hw
        rw [if_pos c11, if_pos k1, if_pos k2, a1, Option.bind_some]
        dsimp only
        rw [if_pos k1, if_pos k2, a2, Option.bind_some]
        dsimp only
        rw [if_pos rfl]
        exact nx w2 r2
      rw [if_neg c11]
      by_cases c12 : xs (ix (nI i)) &&& 31 = 12
      · obtain ⟨a, w1, w2, a1, a2, r2⟩ := op_later (xs (ix (nI i + 1))) (xs (ix (nI i + 2))) hw
        rw [if_pos c12, if_pos k1, if_pos k2, a1, Option.bind_some]
        dsimp only
        rw [if_pos k1, if_pos k2, a2, Option.bind_some]
        dsimp only
        rw [if_pos rfl]
        exact nx w2 r2
      rw [if_neg c12]
      by_cases c13 : xs (ix (nI i)) &&& 31 = 13
      · obtain ⟨a, w1, w2, a1, a2, r2⟩ := op_odds (xs (ix (nI i + 1))) (xs (ix (nI i + 2))) (xs (ix (nI i + 3))) hw
        rw [if_pos c13, if_pos k1, if_pos k2, if_pos k3, a1, Option.bind_some]
        dsimp only
        rw [if_pos k1, if_pos k2, if_pos k3, a2, Option.bind_some]
        dsimp only
        rw [if_pos rfl]
        exact nx w2 r2
      rw [if_neg c13]
      by_cases c14 : xs (ix (nI i)) &&& 31 = 14
      · obtain ⟨a, w1, w2, a1, a2, r2⟩ := op_field (xs (ix (nI i + 1))) (xs (ix (nI i + 2))) hw
        rw [if_pos c14, if_pos k1, if_pos k2, a1, Option.bind_some]
        dsimp only
        rw [if_pos k1, if_pos k2, a2, Option.bind_some]
        dsimp only
        rw [if_pos rfl]
        exact nx w2 r2
      rw [if_neg c14]
      by_cases c15 : xs (ix (nI i)) &&& 31 = 15
      · obtain ⟨a, w1, w2, a1, a2, r2⟩ := op_fields hw
        rw [if_pos c15, a1, Option.bind_some]
        dsimp only
        rw [a2, Option.bind_some]
        dsimp only
        rw [if_pos rfl]
        exact nx w2 r2
      rw [if_neg c15]
      by_cases c16 : xs (ix (nI i)) &&& 31 = 16
      · obtain ⟨a, w1, w2, a1, a2, r2⟩ := op_ploughed (xs (ix (nI i + 1))) (xs (ix (nI i + 2))) hw
        rw [if_pos c16, if_pos k1, if_pos k2, a1, Option.bind_some]
        dsimp only
        rw [if_pos k1, if_pos k2, a2, Option.bind_some]
        dsimp only
        rw [if_pos rfl]
        exact nx w2 r2
      rw [if_neg c16]
      by_cases c17 : xs (ix (nI i)) &&& 31 = 17
      · obtain ⟨a, w1, w2, a1, a2, r2⟩ := op_peak (xs (ix (nI i + 1))) hw
        rw [if_pos c17, if_pos k1, a1, Option.bind_some]
        dsimp only
        rw [if_pos k1, a2, Option.bind_some]
        dsimp only
        rw [if_pos rfl]
        exact nx w2 r2
      rw [if_neg c17]
      by_cases c18 : xs (ix (nI i)) &&& 31 = 18
      · obtain ⟨a, w1, w2, a1, a2, r2⟩ := op_terrier (xs (ix (nI i + 1))) (xs (ix (nI i + 2))) (xs (ix (nI i + 3))) hw
        rw [if_pos c18, if_pos k1, if_pos k2, if_pos k3, a1, Option.bind_some]
        dsimp only
        rw [if_pos k1, if_pos k2, if_pos k3, a2, Option.bind_some]
        dsimp only
        rw [if_pos rfl]
        exact nx w2 r2
      rw [if_neg c18]
      by_cases c19 : xs (ix (nI i)) &&& 31 = 19
      · obtain ⟨a, w1, w2, a1, a2, r2⟩ := op_given (xs (ix (nI i + 1))) hw
        rw [if_pos c19, if_pos k1, a1, Option.bind_some]
        dsimp only
        rw [if_pos k1, a2, Option.bind_some]
        dsimp only
        rw [if_pos rfl]
        exact nx w2 r2
      rw [if_neg c19]
      by_cases c20 : xs (ix (nI i)) &&& 31 = 20
      · obtain ⟨a, w1, w2, a1, a2, r2⟩ := op_holder (xs (ix (nI i + 1))) (xs (ix (nI i + 2))) hw
        rw [if_pos c20, if_pos k1, if_pos k2, a1, Option.bind_some]
        dsimp only
        rw [if_pos k1, if_pos k2, a2, Option.bind_some]
        dsimp only
        rw [if_pos rfl]
        exact nx w2 r2
      rw [if_neg c20]
      by_cases c21 : xs (ix (nI i)) &&& 31 = 21
      · obtain ⟨a, w1, w2, a1, a2, r2⟩ := op_round hw
        rw [if_pos c21, a1, Option.bind_some]
        dsimp only
        rw [a2, Option.bind_some]
        dsimp only
        rw [if_pos rfl]
        exact nx w2 r2
      rw [if_neg c21]
      by_cases c22 : xs (ix (nI i)) &&& 31 = 22
      · obtain ⟨a, w1, w2, a1, a2, r2⟩ := op_whose (xs (ix (nI i + 1))) hw
        rw [if_pos c22, if_pos k1, a1, Option.bind_some]
        dsimp only
        rw [if_pos k1, a2, Option.bind_some]
        dsimp only
        rw [if_pos rfl]
        exact nx w2 r2
      rw [if_neg c22]
      by_cases c23 : xs (ix (nI i)) &&& 31 = 23
      · obtain ⟨a, w1, w2, a1, a2, r2⟩ := op_picture (xs (ix (nI i + 1))) (xs (ix (nI i + 2))) (xs (ix (nI i + 3))) hw
        rw [if_pos c23, if_pos k1, if_pos k2, if_pos k3, a1, Option.bind_some]
        dsimp only
        rw [if_pos k1, if_pos k2, if_pos k3, a2, Option.bind_some]
        dsimp only
        rw [if_pos rfl]
        exact nx w2 r2
      rw [if_neg c23]
      by_cases c24 : xs (ix (nI i)) &&& 31 = 24
      · obtain ⟨a, w1, w2, a1, a2, r2⟩ := op_shows (xs (ix (nI i + 1))) (xs (ix (nI i + 2))) hw
        rw [if_pos c24, if_pos k1, if_pos k2, a1, Option.bind_some]
        dsimp only
        rw [if_pos k1, if_pos k2, a2, Option.bind_some]
        dsimp only
        rw [if_pos rfl]
        exact nx w2 r2
      rw [if_neg c24]
      by_cases c25 : xs (ix (nI i)) &&& 31 = 25
      · obtain ⟨a, w1, w2, a1, a2, r2⟩ := op_seen (xs (ix (nI i + 1))) hw
        rw [if_pos c25, if_pos k1, a1, Option.bind_some]
        dsimp only
        rw [if_pos k1, a2, Option.bind_some]
        dsimp only
        rw [if_pos rfl]
        exact nx w2 r2
      rw [if_neg c25]
      by_cases c26 : xs (ix (nI i)) &&& 31 = 26
      · obtain ⟨a, w1, w2, a1, a2, r2⟩ := op_count (xs (ix (nI i + 1))) hw
        rw [if_pos c26, if_pos k1, a1, Option.bind_some]
        dsimp only
        rw [if_pos k1, a2, Option.bind_some]
        dsimp only
        rw [if_pos rfl]
        exact nx w2 r2
      rw [if_neg c26]
      exact nx w hw
/-- both new -/
theorem nb_fC {t : Nat} (ht : t < 14) : nb (fC 2000 14 t) 0 2000 := ⟨2000, by decide, by decide, (if_pos ht : (if t < 14 then (2000 : Int32) else 0) = 2000)⟩
theorem bt_00 {i : Nat} (h : bt 0 i = true) : False := by rw [b_0] at h; cases h
theorem Rel_0 : Rel w0 := by
  refine ⟨⟨rfl, rfl, rfl, rfl, rfl, rfl, rfl, rfl, rfl, rfl, rfl, rfl, rfl, rfl, rfl, rfl, rfl, rfl⟩, ⟨fun t _ => ⟨rfl, rfl, rfl, rfl⟩, fun b _ k _ => rfl⟩, fun b _ hb => (bt_00 hb).elim, fun t _ _ hb => (bt_00 hb).elim, fun i _ => b_0 i, nb_0, fun i hb => (bt_00 hb).elim, ⟨2, by decide, by decide, rfl⟩, ⟨20, by decide, by decide, rfl⟩, nb_0, fun j => nb_0, fun t ht => ⟨nb_0, nb_fC ht⟩, fun t _ i hb => (bt_00 hb).elim, fun k _ hb => (bt_00 hb).elim, fun t _ => nb_0, fun t _ i hb => (bt_00 hb).elim, nb_0, fun p _ => ⟨nb_0, nb_0, fun i hb => (bt_00 hb).elim⟩⟩
theorem law_pure (xs : Nat → Int32) (Ls : Nat) (hL : Ls ≤ 256) : ∃ (n : Nat) (w' : Wd), f_L_law_18 xs Ls n 0 w0 = some (1, w') :=
  ⟨65, law_all xs hL 65 0 w0 Rel_0 (Nat.zero_le _) (by omega)⟩
