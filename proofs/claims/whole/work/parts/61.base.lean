/-! THE PURE SIDE. First words: truth as a number, reading and writing a row. -/
def b2i (b : Bool) : Int32 := if b then 1 else 0
theorem b2i_0 (b : Bool) : (b2i b = 0) ↔ b = false := by cases b <;> decide
theorem b2i_1 (b : Bool) : (b2i b = 1) ↔ b = true := by cases b <;> decide
theorem b2i_t : b2i true = 1 := rfl
theorem b2i_f : b2i false = 0 := rfl
theorem b2i_bo (b : Bool) : bo (b2i b) = true := by cases b <;> decide
def wi (a b c : Int32) : Bool := decide (b ≤ a) && decide (a ≤ c)
theorem e_within (a b c : Int32) (w : Wd) : f_X9_within a b c w = some (b2i (wi a b c), w) := by
  unfold f_X9_within wi
  by_cases h1 : a < b
  · rw [if_pos h1]
    have : ¬ b ≤ a := by rw [fa_le]; rw [fa_lt] at h1; omega
    simp [this, b2i]
  · rw [if_neg h1]
    have h1' : b ≤ a := fa_of_nlt h1
    by_cases h2 : c < a
    · rw [if_pos h2]
      have : ¬ a ≤ c := by rw [fa_le]; rw [fa_lt] at h2; omega
      simp [h1', this, b2i]
    · rw [if_neg h2]
      simp [h1', fa_of_nlt h2, b2i]
theorem e_in (a b c : Int32) (w : Wd) : f_X10_in a b c w = some (b2i (wi a b c), w) := e_within a b c w
/-- one bit -/
theorem bit1 (s : Int32) {j : Nat} (hj : j < 32) : (jshr s (nI j)) &&& 1 = b2i (bt s j) := by
  apply b_ext
  intro i hi
  rw [b_and]
  show (bt (s >>> (nI j &&& 31)) i && bt 1 i) = _
  rw [b_sshr j hj s hi]
  have h1 : bt 1 i = decide (i = 0) := (by decide +kernel : ∀ i, i < 32 → bt 1 i = decide (i = 0)) i hi
  rw [h1]
  by_cases h0 : i = 0
  · subst h0
    simp only [Nat.add_zero, if_pos hj, decide_true, Bool.and_true]
    cases bt s j <;> decide
  · have h3 : bt (b2i (bt s j)) i = false := by
      cases bt s j
      · exact b_0 i
      · show bt 1 i = false
        rw [h1]; simp [h0]
    rw [h3]; simp [h0]
theorem e_has (s : Int32) {j : Nat} (hj : j < 32) (w : Wd) : f_X9_has s (nI j) w = some (b2i (bt s j), w) := by
  unfold f_X9_has
  rw [bit1 s hj]
  cases bt s j <;> rfl
theorem e_oneIf (b : Bool) (w : Wd) : f_X9_oneIf (b2i b) w = some (b2i b, w) := by cases b <;> rfl
theorem bt_one (s : Int32) {j i : Nat} (hj : j < 32) (hi : i < 32) : bt (s ||| jshl 1 (nI j)) i = (bt s i || decide (i = j)) := by
  rw [b_or]
  show (bt s i || bt (1 <<< (nI j &&& 31)) i) = _
  rw [b_shl j hj 1 hi]
  have h1 : bt 1 (i - j) = decide (i - j = 0) := (by decide +kernel : ∀ i, i < 32 → bt 1 i = decide (i = 0)) (i - j) (by omega)
  rw [h1]
  congr 1
  rw [Bool.eq_iff_iff]
  simp only [Bool.and_eq_true, decide_eq_true_eq]
  omega
/-- reading a row -/
def atv (f : Nat → Int32) (n : Nat) (i : Int32) : Int32 := if i < 0 then 0 else if nI n ≤ i then 0 else f (ix i)
theorem atv_in {f : Nat → Int32} {n j : Nat} (h : j < n) (hn : n < 2 ^ 31) : atv f n (nI j) = f j := by
  unfold atv
  rw [if_neg (nI_pos (by omega)), if_neg (nI_ge h hn), show ix (nI j) = j from nI_clamp (by omega)]
theorem e_at {k n : Nat} (hk : k < 57) (hl : lay k = .inl n) (i : Int32) (w : Wd) : f_X9_at k i w = some (atv (w.1 k) n i, w) := by
  have hN : arN k = some n := by
    unfold arN
    rw [if_neg (by omega), if_neg (by omega), if_pos hk, hl]
  unfold f_X9_at
  rw [hN]
  have hr : rdC w k (ix i) = w.1 k (ix i) := by unfold rdC; rw [if_neg (by omega), if_neg (by omega)]
  unfold atv
  dsimp only
  split
  · rfl
  · split
    · rfl
    · rw [hr]
/-- writing a row -/
def ptv (f : Nat → Int32) (n : Nat) (i x : Int32) : Nat → Int32 := if i < 0 then f else if nI n ≤ i then f else upd f (ix i) x
theorem ptv_in {f : Nat → Int32} {n j : Nat} {x : Int32} (h : j < n) (hn : n < 2 ^ 31) : ptv f n (nI j) x = upd f j x := by
  unfold ptv
  rw [if_neg (nI_pos (by omega)), if_neg (nI_ge h hn), show ix (nI j) = j from nI_clamp (by omega)]
theorem wA_self (w : Wd) (k : Nat) : wA w k (w.1 k) = w := by
  unfold wA
  apply Prod.ext
  · funext a
    show (if a = k then w.1 k else w.1 a) = w.1 a
    split
    · rename_i h; rw [h]
    · rfl
  · rfl
theorem e_put {k n : Nat} (hk : k < 57) (hl : lay k = .inl n) (i x : Int32) (w : Wd) : f_X9_put k i x w = some (wA w k (ptv (w.1 k) n i x)) := by
  have hN : arW k = some n := by
    unfold arW
    rw [if_pos hk, hl]
  unfold f_X9_put
  rw [hN]
  unfold ptv
  dsimp only
  split
  · rw [wA_self]
  · split
    · rw [wA_self]
    · rfl
theorem wA_s (w : Wd) (k : Nat) (f : Nat → Int32) : (wA w k f).1 k = f := by simp [wA]
theorem wA_n (w : Wd) {k a : Nat} (f : Nat → Int32) (h : a ≠ k) : (wA w k f).1 a = w.1 a := by simp [wA, h]
theorem wA_2 (w : Wd) (k : Nat) (f : Nat → Int32) : (wA w k f).2 = w.2 := rfl
theorem wA_wA (w : Wd) (k : Nat) (f g : Nat → Int32) : wA (wA w k f) k g = wA w k g := by
  unfold wA
  apply Prod.ext
  · funext a
    show (if a = k then g else if a = k then f else w.1 a) = if a = k then g else w.1 a
    split <;> rfl
  · rfl
theorem inB_nI {j n : Nat} (h : j < n) (hn : n < 2 ^ 31) : inB (nI j) n = true := by
  unfold inB
  rw [nI_toInt (by omega)]
  simp; omega
theorem ix_nI {j : Nat} (h : j < 2 ^ 31) : ix (nI j) = j := nI_clamp h
theorem fu_s : ∃ m, fu = m + 1 := ⟨99999, rfl⟩
/-- a thing's number, told -/
def isT (n : Int32) (told p : Int32) : Bool := wi p 0 n && bt told (ix p)
theorem wi_nI {p : Int32} {n : Nat} (hn : n < 2 ^ 31) (h : wi p 0 (nI n) = true) : ∃ j : Nat, j ≤ n ∧ p = nI j := by
  unfold wi at h
  simp only [Bool.and_eq_true, decide_eq_true_eq] at h
  have h0 : ¬ p < 0 := by rw [fa_lt]; have := (fa_le _ _).mp h.1; omega
  exact nI_of2 (M := nI n) (nI_toInt hn) h0 h.2
theorem nI_wi {j n : Nat} (h : j ≤ n) (hn : n < 2 ^ 31) : wi (nI j) 0 (nI n) = true := by
  unfold wi
  simp only [Bool.and_eq_true, decide_eq_true_eq]
  exact ⟨nI_pos' (by omega), nI_le h hn⟩
theorem nI_wi2 {j a b : Nat} (h1 : a ≤ j) (h : j ≤ b) (hn : b < 2 ^ 31) : wi (nI j) (nI a) (nI b) = true := by
  unfold wi
  simp only [Bool.and_eq_true, decide_eq_true_eq]
  exact ⟨nI_le h1 (by omega), nI_le h hn⟩
theorem e_isThing (p : Int32) (w : Wd) : f_X0_isThing p w = some (b2i (isT 13 (w.1 5 0) p), w) := by
  unfold f_X0_isThing
  rw [e_within]
  show (if b2i (wi p 0 13) = 0 then _ else _) = _
  unfold isT
  cases hw : wi p 0 13 with
  | false => rfl
  | true =>
    obtain ⟨j, hj, rfl⟩ := wi_nI (n := 13) (by decide) hw
    rw [ix_nI (by omega)]
    show (Option.bind (f_X9_has (w.1 5 0) (nI j) w) _) = _
    rw [e_has _ (by omega)]
    show (if b2i (bt (w.1 5 0) j) = 0 then _ else _) = _
    cases bt (w.1 5 0) j <;> rfl
theorem e_isBundle (p : Int32) (w : Wd) : f_X0_isBundle p w = some (b2i (isT 7 (w.1 5 0) p), w) := by
  unfold f_X0_isBundle
  rw [e_within]
  show (if b2i (wi p 0 7) = 0 then _ else _) = _
  unfold isT
  cases hw : wi p 0 7 with
  | false => rfl
  | true =>
    obtain ⟨j, hj, rfl⟩ := wi_nI (n := 7) (by decide) hw
    rw [ix_nI (by omega)]
    show (Option.bind (f_X9_has (w.1 5 0) (nI j) w) _) = _
    rw [e_has _ (by omega)]
    show (if b2i (bt (w.1 5 0) j) = 0 then _ else _) = _
    cases bt (w.1 5 0) j <;> rfl
theorem m_isThing (p : Int32) (w : Wd) : f_X10_isThing p w = some (b2i (isT 13 (w.1 33 0) p), w) := by
  unfold f_X10_isThing
  rw [e_in]
  show (if b2i (wi p 0 13) = 0 then _ else _) = _
  unfold isT
  cases hw : wi p 0 13 with
  | false => rfl
  | true =>
    obtain ⟨j, hj, rfl⟩ := wi_nI (n := 13) (by decide) hw
    rw [ix_nI (by omega)]
    show (if (jshr (w.1 33 0) (nI j) &&& 1) = 1 then _ else _) = _
    rw [bit1 _ (by omega)]
    cases bt (w.1 33 0) j <;> rfl
theorem m_isBundle (p : Int32) (w : Wd) : f_X10_isBundle p w = some (b2i (isT 7 (w.1 33 0) p), w) := by
  unfold f_X10_isBundle
  rw [e_in]
  show (if b2i (wi p 0 7) = 0 then _ else _) = _
  unfold isT
  cases hw : wi p 0 7 with
  | false => rfl
  | true =>
    obtain ⟨j, hj, rfl⟩ := wi_nI (n := 7) (by decide) hw
    show (Option.bind (f_X10_isThing (nI j) w) _) = _
    rw [m_isThing]
    unfold isT
    rw [show wi (nI j) 0 13 = true from nI_wi (n := 13) (by omega) (by decide), ix_nI (by omega)]
    show (if b2i (bt (w.1 33 0) j) = 0 then _ else _) = _
    cases bt (w.1 33 0) j <;> rfl
theorem isT_nI {told : Int32} {p : Int32} {n : Nat} (hn : n < 2 ^ 31) (h : isT (nI n) told p = true) : ∃ j : Nat, j ≤ n ∧ p = nI j ∧ bt told j = true := by
  unfold isT at h
  simp only [Bool.and_eq_true] at h
  obtain ⟨j, hj, rfl⟩ := wi_nI hn h.1
  rw [ix_nI (by omega)] at h
  exact ⟨j, hj, rfl, h.2⟩
theorem nI_isT {told : Int32} {j n : Nat} (h : j ≤ n) (hn : n < 2 ^ 31) : isT (nI n) told (nI j) = bt told j := by
  unfold isT
  rw [nI_wi h hn, ix_nI (by omega)]; rfl
