/-! count, teams -/
theorem n5 {i : Nat} (h : i < 5) : ¬ (5 : Int32) ≤ nI i := nI_ge (b := 5) h (by decide)
theorem n8 {i : Nat} (h : i < 8) : ¬ (8 : Int32) ≤ nI i := nI_ge (b := 8) h (by decide)
theorem n4 {i : Nat} (h : i < 4) : ¬ (4 : Int32) ≤ nI i := nI_ge (b := 4) h (by decide)
theorem n7 {i : Nat} (h : i < 7) : ¬ (7 : Int32) ≤ nI i := nI_ge (b := 7) h (by decide)
theorem n9 {i : Nat} (h : i < 9) : ¬ (9 : Int32) ≤ nI i := nI_ge (b := 9) h (by decide)
theorem n13 {i : Nat} (h : i < 13) : ¬ (13 : Int32) ≤ nI i := nI_ge (b := 13) h (by decide)
theorem n14 {i : Nat} (h : i < 14) : ¬ (14 : Int32) ≤ nI i := nI_ge (b := 14) h (by decide)
theorem n15 {i : Nat} (h : i < 15) : ¬ (15 : Int32) ≤ nI i := nI_ge (b := 15) h (by decide)
theorem n30 {i : Nat} (h : i < 30) : ¬ (30 : Int32) ≤ nI i := nI_ge (b := 30) h (by decide)
theorem n64 {i : Nat} (h : i < 64) : ¬ (64 : Int32) ≤ nI i := nI_ge (b := 64) h (by decide)
theorem n12 {i : Nat} (h : i ≤ 12) : ¬ (12 : Int32) < nI i := nI_nlt (a := 12) h (by decide)
theorem p1 (i : Nat) : nI i + 1 = nI (i + 1) := nI_1 i
/-- how many of the first n bits -/
def bc (x : Int32) (n : Nat) : Nat := fb_ct (bt x) n
theorem m_bits_4 (x : Int32) (w : Wd) : ∀ (n i : Nat), i ≤ 14 → 14 - i < n → f_X10_bits_4 n x (nI (bc x i)) (nI i) w = some (nI (bc x 14), w) := by
  intro n
  induction n with
  | zero => intro i _ h; omega
  | succ n ih =>
    intro i hi hn
    rw [f_X10_bits_4]
    by_cases h : i = 14
    · subst h
      rw [if_pos (by decide)]
    · rw [if_neg (n14 (by omega)), bit1 x (by omega)]
      have e : nI (bc x i) + b2i (bt x i) = nI (bc x (i + 1)) := by
        unfold bc
        rw [fb_ct_succ, ← nI_add]
        cases bt x i <;> rfl
      rw [e, p1]
      exact ih (i + 1) (by omega) (by omega)
theorem m_bits (x : Int32) (w : Wd) : f_X10_bits x w = some (nI (bc x 14), w) := m_bits_4 x w fu 0 (by decide) (by decide)
/-- the JDK's count, of numbers below 2^14 -/
def bcF (x : Int32) : Int32 := match f_J6_bitCount_0f7a4 x (fun _ _ => 0, 0) with
  | some q => q.1
  | none => 0
theorem bcF_ok2 : ∀ a, a < 128 → ∀ b, b < 128 → bcF (nI (128 * a + b)) = nI (bc (nI (128 * a + b)) 14) := by decide +kernel
theorem bcF_ok (n : Nat) (hn : n < 16384) : bcF (nI n) = nI (bc (nI n) 14) := by
  have := bcF_ok2 (n / 128) (by omega) (n % 128) (by omega)
  rw [show 128 * (n / 128) + n % 128 = n by omega] at this
  exact this
theorem e_bitCount {x : Int32} (h : ∀ i, 14 ≤ i → bt x i = false) (w : Wd) : f_J6_bitCount_0f7a4 x w = some (nI (bc x 14), w) := by
  have hx : ∃ n, n < 16384 ∧ x = nI n := by
    refine ⟨x.toBitVec.toNat, ?_, Int32.toBitVec_inj.mp (by show x.toBitVec = BitVec.ofNat 32 x.toBitVec.toNat; simp)⟩
    exact Nat.lt_pow_two_of_testBit (n := 14) _ (fun i hi => h i hi)
  obtain ⟨n, hn, rfl⟩ := hx
  rw [← bcF_ok n hn]
  rfl
theorem e_isTold {t : Nat} (ht : t < 5) (w : Wd) : f_X5_isTold (nI t) w = some (b2i (decide (0 < w.1 21 t)), w) := by
  unfold f_X5_isTold
  rw [e_at (k := 21) (by decide) lay_21, atv_in ht (by decide)]
  show (if w.1 21 t ≤ 0 then _ else _) = _
  by_cases h : w.1 21 t ≤ 0
  · rw [if_pos h]
    have : ¬ 0 < w.1 21 t := by rw [fa_lt]; have := (fa_le _ _).mp h; omega
    simp [this, b2i]
  · rw [if_neg h]
    simp [fa_of_nle h, b2i]
def tct (f : Nat → Int32) (n : Nat) : Nat := fb_ct (fun t => decide (0 < f t)) n
theorem e_howMany_4 (w : Wd) : ∀ (n i : Nat), i ≤ 5 → 5 - i < n → f_X5_howManyTold_4 n (nI (tct (w.1 21) i)) (nI i) w = some (nI (tct (w.1 21) 5), w) := by
  intro n
  induction n with
  | zero => intro i _ h; omega
  | succ n ih =>
    intro i hi hn
    rw [f_X5_howManyTold_4]
    by_cases h : i = 5
    · subst h
      rw [if_pos (by decide)]
    · rw [if_neg (n5 (by omega)), e_isTold (by omega)]
      show Option.bind (f_X9_oneIf _ w) _ = _
      rw [e_oneIf]
      show f_X5_howManyTold_4 n (nI (tct (w.1 21) i) + b2i (decide (0 < w.1 21 i))) (nI i + 1) w = _
      have e : nI (tct (w.1 21) i) + b2i (decide (0 < w.1 21 i)) = nI (tct (w.1 21) (i + 1)) := by
        unfold tct
        rw [fb_ct_succ, ← nI_add]
        cases decide (0 < w.1 21 i) <;> rfl
      rw [e, p1]
      exact ih (i + 1) (by omega) (by omega)
theorem m_count_97 (w : Wd) : ∀ (n i : Nat), i ≤ 5 → 5 - i < n → f_X10_count_97 n (nI (tct (w.1 49) i)) (nI i) w = some (nI (tct (w.1 49) 5), w) := by
  intro n
  induction n with
  | zero => intro i _ h; omega
  | succ n ih =>
    intro i hi hn
    rw [f_X10_count_97]
    by_cases h : i = 5
    · subst h
      rw [if_pos (by decide)]
    · rw [if_neg (n5 (by omega)), inB_nI (by omega) (by decide), ix_nI (by omega), if_pos rfl]
      have hs : tct (w.1 49) (i + 1) = tct (w.1 49) i + (if decide (0 < w.1 49 i) then 1 else 0) := rfl
      have i1 := ih (i + 1) (by omega) (by omega)
      by_cases h2 : w.1 49 i ≤ 0
      · have : ¬ 0 < w.1 49 i := by rw [fa_lt]; have := (fa_le _ _).mp h2; omega
        rw [if_pos h2, p1, show nI (tct (w.1 49) i) + 0 = nI (tct (w.1 49) (i + 1)) by rw [hs]; simp [this]]
        exact i1
      · rw [if_neg h2, p1, p1, show tct (w.1 49) i + 1 = tct (w.1 49) (i + 1) by rw [hs]; simp [fa_of_nle h2]]
        exact i1
theorem op_count (p0 : Int32) {w : Wd} (h : Rel w) : Agree (f_X9_count p0) (f_X10_count p0) w := by
  obtain ⟨he, -, -, -, hn⟩ := id h
  unfold Agree f_X9_count f_X10_count
  by_cases c0 : p0 = 0
  · simp only [if_pos c0, m_bits, f_X0_toldBundles, Option.bind_some]
    refine ⟨nI (bc (w.1 5 0 &&& 255) 14), w, w, ?_, ?_, h⟩
    · rw [e_bitCount (fun i hi => by rw [b_and, b_255, decide_eq_false (by omega), Bool.and_false])]; rfl
    · rw [he.1]
  simp only [if_neg c0]
  by_cases c1 : p0 = 1
  · simp only [if_pos c1, m_bits, Option.bind_some]
    have hm : ∀ i, i < 32 → bt (-256) i = decide (8 ≤ i) := by decide +kernel
    refine ⟨nI (bc (w.1 5 0 &&& -256) 14), w, w, ?_, ?_, h⟩
    · rw [e_bitCount (fun i hi => by rw [b_and, hn.1 i hi, Bool.false_and])]; rfl
    · rw [he.1]
      have : bc (jshr (w.1 5 0) 8) 14 = bc (w.1 5 0 &&& -256) 14 := by
        unfold bc
        have e1 : fb_ct (bt (w.1 5 0 &&& -256)) 14 = fb_ct (bt (w.1 5 0 &&& -256)) (8 + 6) := rfl
        have e2 : fb_ct (bt (jshr (w.1 5 0) 8)) 14 = fb_ct (bt (jshr (w.1 5 0) 8)) (6 + 8) := rfl
        rw [e1, e2, fb_ct_split, fb_ct_split]
        have z1 : fb_ct (bt (w.1 5 0 &&& -256)) 8 = 0 := fb_ct_zero.mpr (fun k hk => by rw [b_and, hm k (by omega), decide_eq_false (by omega), Bool.and_false])
        have z2 : fb_ct (fun k => bt (jshr (w.1 5 0) 8) (6 + k)) 8 = 0 := fb_ct_zero.mpr (fun k hk => by
          show bt ((w.1 5 0) >>> ((8 : Int32) &&& 31)) (6 + k) = false
          rw [b_sshr8 _ (by omega), if_pos (by omega)]
          exact hn.1 _ (by omega))
        rw [z1, z2, Nat.zero_add, Nat.add_zero]
        apply fb_ct_cong
        intro k hk
        show bt ((w.1 5 0) >>> ((8 : Int32) &&& 31)) k = _
        rw [b_sshr8 _ (by omega), if_pos (by omega), b_and, hm (8 + k) (by omega), decide_eq_true (by omega), Bool.and_true]
      rw [this]
  simp only [if_neg c1]
  by_cases c2 : p0 = 2
  · simp only [if_pos c2]
    exact ⟨w.1 5 6, w, w, rfl, by rw [he.2.1], h⟩
  simp only [if_neg c2]
  by_cases c3 : p0 = 3
  · simp only [if_pos c3, m_bits, Option.bind_some]
    refine ⟨nI (bc (w.1 5 7) 14), w, w, ?_, ?_, h⟩
    · rw [e_bitCount (fun i hi => by
        cases hb : bt (w.1 5 7) i with
        | false => rfl
        | true => have := hn.2.2.1 i hb; omega)]; rfl
    · rw [he.2.2.1]
  simp only [if_neg c3]
  by_cases c4 : p0 = 4
  · simp only [if_pos c4]
    exact ⟨w.1 1 1, w, w, rfl, by rw [he.2.2.2.2.2.1], h⟩
  simp only [if_neg c4]
  by_cases c5 : p0 = 5
  · simp only [if_pos c5]
    refine ⟨nI (tct (w.1 21) 5), w, w, ?_, ?_, h⟩
    · rw [show f_X5_howManyTold w = _ from e_howMany_4 w fu 0 (by decide) (by decide)]; rfl
    · rw [show f_X10_count_97 fu 0 0 w = _ from m_count_97 w fu 0 (by decide) (by decide), he.2.2.2.2.2.2.2.2.2.2.2.2.1]
  simp only [if_neg c5]
  by_cases c6 : p0 = 6
  · simp only [if_pos c6]
    exact ⟨w.1 29 4, w, w, rfl, by rw [he.2.2.2.2.2.2.1], h⟩
  simp only [if_neg c6]
  by_cases c7 : p0 = 7
  · simp only [if_pos c7]
    exact ⟨w.1 5 9, w, w, rfl, by rw [he.2.2.2.1], h⟩
  simp only [if_neg c7]
  by_cases c8 : p0 = 8
  · simp only [if_pos c8]
    exact ⟨w.1 5 10, w, w, rfl, by rw [he.2.2.2.2.1], h⟩
  simp only [if_neg c8]
  exact ⟨-3, w, w, rfl, rfl, h⟩
