/-! write -/
theorem wS_d (w : Wd) (k j : Nat) (x : Int32) : wS w k j x = wA w k (upd (w.1 k) j x) := rfl
theorem bits_nI {x : Int32} {k : Nat} (h : ∀ i, k ≤ i → bt x i = false) : ∃ n, n < 2 ^ k ∧ x = nI n := by
  refine ⟨x.toBitVec.toNat, ?_, Int32.toBitVec_inj.mp (by show x.toBitVec = BitVec.ofNat 32 x.toBitVec.toNat; simp)⟩
  exact Nat.lt_pow_two_of_testBit (n := k) _ (fun i hi => h i hi)
/-- the i-th byte -/
def byt (x : Int64) (i : Nat) : Int32 := Int64.toInt32 ((jlshr x (8 * nI i)) &&& 255)
theorem byt_nb (x : Int64) (i : Nat) : nb (byt x i) 0 255 := by
  have h : ∀ j, 8 ≤ j → bt (byt x i) j = false := by
    intro j hj
    unfold bt byt
    rw [Int64.toBitVec_toInt32, Int64.toBitVec_and, BitVec.getLsbD_signExtend]
    rcases Nat.lt_or_ge j 32 with h1 | h1
    · rw [if_pos (by omega), BitVec.getLsbD_and]
      have : (Int64.toBitVec 255).getLsbD j = false := (by decide +kernel : ∀ j, j < 32 → 8 ≤ j → (Int64.toBitVec 255).getLsbD j = false) j h1 hj
      rw [this]; simp
    · rw [decide_eq_false (by omega), Bool.false_and]
  obtain ⟨n, hn, e⟩ := bits_nI (k := 8) h
  exact ⟨n, by omega, by omega, e⟩
/-- the row with i bytes more, from L on -/
def gW (f : Nat → Int32) (L : Nat) (x : Int64) (i : Nat) : Nat → Int32 := fun j => if L ≤ j ∧ j < L + i then byt x (j - L) else f j
theorem gW_0 (f : Nat → Int32) (L : Nat) (x : Int64) : gW f L x 0 = f := by
  funext j
  unfold gW
  rw [if_neg (by omega)]
theorem gW_s (f : Nat → Int32) (L : Nat) (x : Int64) (i : Nat) : upd (gW f L x i) (L + i) (byt x i) = gW f L x (i + 1) := by
  funext j
  unfold upd gW
  by_cases h : j = L + i
  · subst h
    rw [if_pos rfl, if_pos (by omega), show L + i - L = i by omega]
  · rw [if_neg h]
    by_cases h2 : L ≤ j ∧ j < L + i
    · rw [if_pos h2, if_pos (by omega)]
    · rw [if_neg h2, if_neg (by omega)]
theorem e_add_3 {w : Wd} {L m : Nat} (x : Int64) (hL : w.1 1 1 = nI L) (hm : L + m ≤ 200) : ∀ (n i : Nat), i ≤ m → m - i < n → f_X6_add_3 n x (nI m) (nI i) (wA w 2 (gW (w.1 2) L x i)) = some (wA (wA w 2 (gW (w.1 2) L x m)) 1 (upd (w.1 1) 1 (nI (L + m)))) := by
  intro n
  induction n with
  | zero => intro i _ h; omega
  | succ n ih =>
    intro i hi hn
    rw [f_X6_add_3]
    have r1 : ∀ f, (wA w 2 f).1 1 = w.1 1 := fun f => wA_n _ _ (by decide)
    by_cases h : i = m
    · subst h
      rw [if_pos (nI_le (Nat.le_refl i) (by omega)), wS_d, r1, hL, nI_add]
    · rw [if_neg (nI_ge (by omega) (by omega)), r1, hL, nI_add, e_put (k := 2) (by decide) lay_2, Option.bind_some, ptv_in (by omega) (by decide), wA_s]
      have e : upd (gW (w.1 2) L x i) (L + i) (Int64.toInt32 ((jlshr x (8 * nI i)) &&& 255)) = gW (w.1 2) L x (i + 1) := gW_s _ L x i
      rw [e, wA_wA, p1]
      exact ih (i + 1) (by omega) (by omega)
theorem m_write_31 {w : Wd} {L m : Nat} (x : Int64) (hL : w.1 33 15 = nI L) (hm : L + m ≤ 200) : ∀ (n i : Nat), i ≤ m → m - i < n → f_X10_write_31 n x (nI m) (nI i) (wA w 44 (gW (w.1 44) L x i)) = some (nI (L + m), wA (wA w 44 (gW (w.1 44) L x m)) 33 (upd (w.1 33) 15 (nI (L + m)))) := by
  intro n
  induction n with
  | zero => intro i _ h; omega
  | succ n ih =>
    intro i hi hn
    rw [f_X10_write_31]
    have r1 : ∀ f, (wA w 44 f).1 33 = w.1 33 := fun f => wA_n _ _ (by decide)
    by_cases h : i = m
    · subst h
      rw [if_pos (nI_le (Nat.le_refl i) (by omega)), wS_d, wA_s, pk_us, r1, hL, nI_add]
    · rw [if_neg (nI_ge (by omega) (by omega)), r1, hL, nI_add, inB_nI (by omega) (by decide), if_pos rfl, ix_nI (by omega), wS_d, wA_s]
      have e : upd (gW (w.1 44) L x i) (L + i) (Int64.toInt32 ((jlshr x (8 * nI i)) &&& 255)) = gW (w.1 44) L x (i + 1) := gW_s _ L x i
      rw [e, wA_wA, p1]
      exact ih (i + 1) (by omega) (by omega)
theorem op_write (p0 : Int64) (p1 : Int32) {w : Wd} (h : Rel w) : Agree (f_X9_write p0 p1) (f_X10_write p0 p1) w := by
  obtain ⟨he, -, -, -, hn⟩ := id h
  obtain ⟨L, -, hL200, hL⟩ := hn.2.2.2.2.2.1
  have hL2 : w.1 33 15 = nI L := by rw [he.2.2.2.2.2.1, hL]
  unfold Agree f_X9_write f_X10_write f_X6_hasRoomFor
  simp only [e_within, e_in, Option.bind_some, b2i_0]
  cases h1 : wi p1 1 8 with
  | false => exact ⟨-3, w, w, rfl, rfl, h⟩
  | true =>
    have h1' : wi p1 0 8 = true := by
      unfold wi at *
      simp only [Bool.and_eq_true, decide_eq_true_eq] at *
      refine ⟨?_, h1.2⟩
      have := (fa_le _ _).mp h1.1
      rw [fa_le]
      have z : (0 : Int32).toInt = 0 := by decide
      have o : (1 : Int32).toInt = 1 := by decide
      omega
    obtain ⟨m, hm, rfl⟩ := wi_nI (n := 8) (by decide) h1'
    simp only [reduceCtorEq, if_false, Bool.true_eq_false, hL, hL2, nI_add]
    by_cases h2 : L + m ≤ 200
    · have a1 : ¬ (200 : Int32) < nI (L + m) := nI_nlt (a := 200) h2 (by decide)
      have a2 : nI (L + m) ≤ (200 : Int32) := nI_le (b := 200) h2 (by decide)
      have c1 : f_X6_add p0 (nI m) w = some (wA (wA w 2 (gW (w.1 2) L p0 m)) 1 (upd (w.1 1) 1 (nI (L + m)))) := by
        have := e_add_3 (w := w) p0 hL h2 fu 0 (by omega) (Nat.lt_of_le_of_lt (by omega : m - 0 ≤ 8) (by decide))
        rw [gW_0, wA_self] at this
        exact this
      refine ⟨nI (L + m), wA (wA w 2 (gW (w.1 2) L p0 m)) 1 (upd (w.1 1) 1 (nI (L + m))), wA (wA (wA (wA w 2 (gW (w.1 2) L p0 m)) 1 (upd (w.1 1) 1 (nI (L + m)))) 44 (gW (w.1 44) L p0 m)) 33 (upd (w.1 33) 15 (nI (L + m))), ?_, ?_, ?_⟩
      · rw [if_neg a1, Option.bind_some]
        dsimp only
        rw [if_neg (by decide), c1, Option.bind_some, wA_s, pk_us]
      · have r33 : (wA (wA w 2 (gW (w.1 2) L p0 m)) 1 (upd (w.1 1) 1 (nI (L + m)))).1 33 = w.1 33 := by rw [wA_n _ _ (by decide), wA_n _ _ (by decide)]
        have r44 : (wA (wA w 2 (gW (w.1 2) L p0 m)) 1 (upd (w.1 1) 1 (nI (L + m)))).1 44 = w.1 44 := by rw [wA_n _ _ (by decide), wA_n _ _ (by decide)]
        have := m_write_31 (w := wA (wA w 2 (gW (w.1 2) L p0 m)) 1 (upd (w.1 1) 1 (nI (L + m)))) p0 (by rw [r33, hL2]) h2 fu 0 (by omega) (Nat.lt_of_le_of_lt (by omega : m - 0 ≤ 8) (by decide))
        rw [gW_0, wA_self, r33, r44] at this
        rw [r33, hL2, nI_add, if_pos a2]
        exact this
      · refine h.tx (((((simX.rf _ w).all _ (fun _ => rfl)).st _ ?_).all _ (fun _ => rfl)).st _ ?_) ?_ ?_ ?_ ?_
        · intro j _ e
          simp only [E_tx, decide_eq_false_iff_not] at e
          rw [pk_un e]; rfl
        · intro j _ e
          simp only [E_tx, decide_eq_false_iff_not] at e
          rw [pk_un e]; rfl
        · show upd (w.1 33) 15 (nI (L + m)) 15 = upd (w.1 1) 1 (nI (L + m)) 1
          rw [pk_us, pk_us]
        · show gW (w.1 44) L p0 m = gW (w.1 2) L p0 m
          rw [he.2.2.2.2.2.2.2.1]
        · show nb (upd (w.1 1) 1 (nI (L + m)) 1) 0 200
          rw [pk_us]; exact ⟨L + m, by omega, h2, rfl⟩
        · intro j
          show nb (gW (w.1 2) L p0 m j) 0 255
          unfold gW
          split
          · exact byt_nb _ _
          · exact hn.2.2.2.2.2.2.1 j
    · have a1 : (200 : Int32) < nI (L + m) := nI_lt (a := 200) (by omega) (by omega)
      have a2 : ¬ nI (L + m) ≤ (200 : Int32) := nI_ge (a := 200) (by omega) (by omega)
      refine ⟨-5, w, w, ?_, ?_, h⟩
      · rw [if_pos a1]; rfl
      · rw [hL2, nI_add, if_neg a2]
