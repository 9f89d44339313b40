/-! the text: tokens, and the class's reader -/
def srt (c : Nat) : Nat := if 97 ≤ c ∧ c ≤ 122 then 0 else if 48 ≤ c ∧ c ≤ 57 then 1 else 2
def skN (T : Nat → Nat) (N : Nat) : Nat → Nat → Nat
  | 0, p => p
  | k + 1, p => if p < N ∧ T p = 32 then skN T N k (p + 1) else p
def rnN (T : Nat → Nat) (N s : Nat) : Nat → Nat → Nat
  | 0, p => p
  | k + 1, p => if p < N ∧ srt (T p) = s then rnN T N s k (p + 1) else p
def tB (T : Nat → Nat) (N p : Nat) : Nat := skN T N 200 p
def tE (T : Nat → Nat) (N p : Nat) : Nat := if tB T N p < N then (if srt (T (tB T N p)) = 2 then tB T N p + 1 else rnN T N (srt (T (tB T N p))) 200 (tB T N p + 1)) else tB T N p
theorem skN_b (T : Nat → Nat) (N : Nat) : ∀ k p, p ≤ N → p ≤ skN T N k p ∧ skN T N k p ≤ N
  | 0, p, h => ⟨Nat.le_refl _, h⟩
  | k + 1, p, h => by
    rw [skN]
    split
    · rename_i c
      have := skN_b T N k (p + 1) (by omega)
      omega
    · exact ⟨Nat.le_refl _, h⟩
theorem rnN_b (T : Nat → Nat) (N s : Nat) : ∀ k p, p ≤ N → p ≤ rnN T N s k p ∧ rnN T N s k p ≤ N
  | 0, p, h => ⟨Nat.le_refl _, h⟩
  | k + 1, p, h => by
    rw [rnN]
    split
    · rename_i c
      have := rnN_b T N s k (p + 1) (by omega)
      omega
    · exact ⟨Nat.le_refl _, h⟩
theorem rnN_s (T : Nat → Nat) (N s : Nat) : ∀ k p j, p ≤ j → j < rnN T N s k p → srt (T j) = s
  | 0, p, j, h1, h2 => by rw [rnN] at h2; omega
  | k + 1, p, j, h1, h2 => by
    rw [rnN] at h2
    split at h2
    · rename_i c
      by_cases e : j = p
      · subst e; exact c.2
      · exact rnN_s T N s k (p + 1) j (by omega) h2
    · omega
theorem tB_b (T : Nat → Nat) {N p : Nat} (h : p ≤ N) : p ≤ tB T N p ∧ tB T N p ≤ N := skN_b T N 200 p h
theorem tE_b (T : Nat → Nat) {N p : Nat} (h : p ≤ N) : tB T N p ≤ tE T N p ∧ tE T N p ≤ N ∧ (tB T N p < N → tB T N p < tE T N p) := by
  have h1 := tB_b T h
  unfold tE
  split
  · rename_i c
    split
    · omega
    · have := rnN_b T N (srt (T (tB T N p))) 200 (tB T N p + 1) (by omega)
      omega
  · omega
theorem tE_s (T : Nat → Nat) {N p : Nat} (h : p ≤ N) {j : Nat} (h1 : tB T N p ≤ j) (h2 : j < tE T N p) (h3 : srt (T (tB T N p)) ≠ 2) : srt (T j) = srt (T (tB T N p)) := by
  have hb := tB_b T h
  unfold tE at h2
  split at h2
  · by_cases e : j = tB T N p
    · rw [e]
    · exact rnN_s T N _ 200 _ j (by omega) h2
  · omega
/-- the text in the class's cells -/
def hTx (w : Wd) (T : Nat → Nat) (N : Nat) : Prop := N ≤ 200 ∧ (∀ j, j < 200 → w.1 2 j = nI (T j) ∧ T j ≤ 255) ∧ w.1 1 1 = nI N
def c3 (w : Wd) (L b e : Nat) : Nat → Int32 := fun j => if j = 2 then nI L else if j = 3 then nI b else if j = 4 then nI e else w.1 3 j
def cR (w : Wd) (L b e : Nat) (A : Nat → Int32) : Wd := w2 w 3 4 (c3 w L b e) A
theorem w2_wa {w : Wd} {a b : Nat} (h : a ≠ b) (A B A' : Nat → Int32) : wA (w2 w a b A B) a A' = w2 w a b A' B := by
  unfold w2 wA
  apply Prod.ext
  · funext c
    show (if c = a then A' else if c = b then B else if c = a then A else w.1 c) = if c = b then B else if c = a then A' else w.1 c
    by_cases e1 : c = a
    · subst e1; rw [if_pos rfl, if_neg h, if_pos rfl]
    · rw [if_neg e1, if_neg e1, if_neg e1]
  · rfl
theorem w2_wb {w : Wd} {a b : Nat} (A B B' : Nat → Int32) : wA (w2 w a b A B) b B' = w2 w a b A B' := by
  unfold w2
  rw [wA_wA]
theorem cR_3 (w : Wd) (L b e : Nat) (A : Nat → Int32) : (cR w L b e A).1 3 = c3 w L b e := w2_a (by decide) _ _
theorem cR_4 (w : Wd) (L b e : Nat) (A : Nat → Int32) : (cR w L b e A).1 4 = A := w2_b _ _
theorem cR_n (w : Wd) (L b e : Nat) (A : Nat → Int32) {k : Nat} (h3 : k ≠ 3) (h4 : k ≠ 4) : (cR w L b e A).1 k = w.1 k := w2_n h3 h4 _ _
theorem cR_32 (w : Wd) (L b e : Nat) (A : Nat → Int32) : (cR w L b e A).1 3 2 = nI L := by rw [cR_3]; rfl
theorem cR_33 (w : Wd) (L b e : Nat) (A : Nat → Int32) : (cR w L b e A).1 3 3 = nI b := by rw [cR_3]; rfl
theorem cR_34 (w : Wd) (L b e : Nat) (A : Nat → Int32) : (cR w L b e A).1 3 4 = nI e := by rw [cR_3]; rfl
theorem cR_s2 (w : Wd) (L b e L' : Nat) (A : Nat → Int32) : wS (cR w L b e A) 3 2 (nI L') = cR w L' b e A := by
  rw [wS_d, cR_3]
  unfold cR
  rw [w2_wa (by decide)]
  congr 1
  funext j
  unfold upd c3
  by_cases h : j = 2
  · rw [if_pos h, if_pos h]
  · rw [if_neg h, if_neg h, if_neg h]
theorem cR_s3 (w : Wd) (L b e b' : Nat) (A : Nat → Int32) : wS (cR w L b e A) 3 3 (nI b') = cR w L b' e A := by
  rw [wS_d, cR_3]
  unfold cR
  rw [w2_wa (by decide)]
  congr 1
  funext j
  unfold upd c3
  by_cases h : j = 3
  · subst h; rw [if_pos rfl, if_neg (by decide), if_pos rfl]
  · rw [if_neg h, if_neg h, if_neg h]
theorem cR_s4 (w : Wd) (L b e e' : Nat) (A : Nat → Int32) : wS (cR w L b e A) 3 4 (nI e') = cR w L b e' A := by
  rw [wS_d, cR_3]
  unfold cR
  rw [w2_wa (by decide)]
  congr 1
  funext j
  unfold upd c3
  by_cases h : j = 4
  · subst h; rw [if_pos rfl, if_neg (by decide), if_neg (by decide), if_pos rfl]
  · rw [if_neg h, if_neg h, if_neg h]
theorem cR_text {w : Wd} {T : Nat → Nat} {N : Nat} (h : hTx w T N) {L b e : Nat} {A : Nat → Int32} {j : Nat} (hj : j < 200) : f_X9_at 2 (nI j) (cR w L b e A) = some (nI (T j), cR w L b e A) := by
  rw [e_at (k := 2) (by decide) lay_2, atv_in hj (by decide), cR_n _ _ _ _ _ (by decide) (by decide), (h.2.1 j hj).1]
theorem cR_N {w : Wd} {T : Nat → Nat} {N : Nat} (h : hTx w T N) (L b e : Nat) (A : Nat → Int32) : (cR w L b e A).1 1 1 = nI N := by
  rw [cR_n _ _ _ _ _ (by decide) (by decide), h.2.2]
theorem wi_N {c a b : Nat} (hc : c < 2 ^ 31) (hb : b < 2 ^ 31) (ha : a ≤ b) : wi (nI c) (nI a) (nI b) = (decide (a ≤ c) && decide (c ≤ b)) := by
  unfold wi
  congr 1
  · rw [decide_eq_decide, nI_leI (by omega) hc]
  · rw [decide_eq_decide, nI_leI hc hb]
theorem e_sort {c : Nat} (hc : c ≤ 255) (v : Wd) : f_X4_sortOf (nI c) v = some (nI (srt c), v) := by
  unfold f_X4_sortOf srt
  rw [e_within, Option.bind_some]
  dsimp only
  rw [show wi (nI c) 97 122 = (decide (97 ≤ c) && decide (c ≤ 122)) from wi_N (a := 97) (b := 122) (by omega) (by decide) (by decide)]
  by_cases h1 : 97 ≤ c ∧ c ≤ 122
  · rw [decide_eq_true h1.1, decide_eq_true h1.2, if_pos h1]
    rw [if_neg (by decide)]; rfl
  · rw [if_neg h1]
    have : (decide (97 ≤ c) && decide (c ≤ 122)) = false := by
      cases e : (decide (97 ≤ c) && decide (c ≤ 122)) with
      | false => rfl
      | true => simp only [Bool.and_eq_true, decide_eq_true_eq] at e; exact absurd e h1
    rw [this, if_pos bz, e_within, Option.bind_some]
    dsimp only
    rw [show wi (nI c) 48 57 = (decide (48 ≤ c) && decide (c ≤ 57)) from wi_N (a := 48) (b := 57) (by omega) (by decide) (by decide)]
    by_cases h2 : 48 ≤ c ∧ c ≤ 57
    · rw [decide_eq_true h2.1, decide_eq_true h2.2, if_pos h2]
      rw [if_neg (by decide)]; rfl
    · rw [if_neg h2]
      have : (decide (48 ≤ c) && decide (c ≤ 57)) = false := by
        cases e : (decide (48 ≤ c) && decide (c ≤ 57)) with
        | false => rfl
        | true => simp only [Bool.and_eq_true, decide_eq_true_eq] at e; exact absurd e h2
      rw [this, if_pos bz]; rfl
theorem srt_b (c : Nat) : srt c ≤ 2 := by unfold srt; split <;> (try split) <;> omega
theorem e_tt_104 {w : Wd} {T : Nat → Nat} {N : Nat} (h : hTx w T N) {L b s : Nat} {A : Nat → Int32} (hs : s ≤ 1) : ∀ (n e k : Nat), e ≤ N → N - e < n → N - e ≤ k → f_X4_takeToken_104 n (nI s) (cR w L b e A) = some (cR w L b (rnN T N s k e) A) := by
  have hN := h.1
  intro n
  induction n with
  | zero => intro e k _ h; omega
  | succ n ih =>
    intro e k he hn hk
    rw [f_X4_takeToken_104, if_neg (fun z => by have := (nI_eq (b := 2) (by omega) (by decide)).mp z; omega), cR_N h, cR_34]
    by_cases hp : e = N
    · subst hp
      rw [if_pos (nI_le (Nat.le_refl _) (by omega))]
      cases k with
      | zero => rfl
      | succ k => rw [rnN, if_neg (by omega)]
    · have he' : e < N := by omega
      obtain ⟨k, rfl⟩ : ∃ j, k = j + 1 := ⟨k - 1, by omega⟩
      have hc := (h.2.1 e (by omega)).2
      have hsb := srt_b (T e)
      rw [if_neg (nI_ge he' (by omega)), cR_text h (by omega), Option.bind_some]
      dsimp only
      rw [e_sort hc, Option.bind_some, rnN]
      dsimp only
      by_cases c : srt (T e) = s
      · rw [if_pos (by rw [c]), if_pos ⟨he', c⟩, cR_34, p1, cR_s4]
        exact ih (e + 1) k (by omega) (by omega) (by omega)
      · rw [if_neg (fun z => c ((nI_eq (by omega) (by omega)).mp z)), if_neg (fun z => c z.2)]
theorem e_tt_54 {w : Wd} {T : Nat → Nat} {N : Nat} (h : hTx w T N) {L p e : Nat} {A : Nat → Int32} (hp : p ≤ N) : f_X4_takeToken_54 (cR w L p e A) = some (cR w L p (if p < N then (if srt (T p) = 2 then p + 1 else rnN T N (srt (T p)) 200 (p + 1)) else p) A) := by
  have hN := h.1
  unfold f_X4_takeToken_54
  rw [cR_33, cR_s4, cR_N h, cR_33]
  by_cases c : p < N
  · have hc := (h.2.1 p (by omega)).2
    have hsb := srt_b (T p)
    rw [if_neg (nI_ge c (by omega)), if_pos c, cR_text h (by omega), Option.bind_some]
    dsimp only
    rw [e_sort hc, Option.bind_some]
    dsimp only
    rw [cR_33, p1, cR_s4]
    by_cases c2 : srt (T p) = 2
    · rw [if_pos c2, c2, show fu = 99999 + 1 from rfl, f_X4_takeToken_104, if_pos (show nI 2 = 2 from rfl)]
    · rw [if_neg c2]
      exact e_tt_104 h (by omega) fu (p + 1) 200 (by omega) (Nat.lt_of_le_of_lt (show N - (p + 1) ≤ 200 by omega) (by decide)) (by omega)
  · rw [if_pos (nI_le (by omega) (by omega)), if_neg c]
theorem e_tt_8 {w : Wd} {T : Nat → Nat} {N : Nat} (h : hTx w T N) {L e : Nat} {A : Nat → Int32} : ∀ (n p k : Nat), p ≤ N → N - p < n → N - p ≤ k → f_X4_takeToken_8 n (cR w L p e A) = f_X4_takeToken_54 (cR w L (skN T N k p) e A) := by
  have hN := h.1
  intro n
  induction n with
  | zero => intro e k _ h; omega
  | succ n ih =>
    intro p k hp hn hk
    rw [f_X4_takeToken_8, cR_N h, cR_33]
    by_cases hpN : p = N
    · subst hpN
      rw [if_pos (nI_le (Nat.le_refl _) (by omega))]
      cases k with
      | zero => rfl
      | succ k => rw [skN, if_neg (by omega)]
    · have hp' : p < N := by omega
      obtain ⟨k, rfl⟩ : ∃ j, k = j + 1 := ⟨k - 1, by omega⟩
      have hc := (h.2.1 p (by omega)).2
      rw [if_neg (nI_ge hp' (by omega)), cR_text h (by omega), Option.bind_some, skN]
      dsimp only
      by_cases c : T p = 32
      · rw [if_pos (by rw [c]; rfl), if_pos ⟨hp', c⟩, cR_33, p1, cR_s3]
        exact ih (p + 1) k (by omega) (by omega) (by omega)
      · rw [if_neg (show ¬ nI (T p) = 32 from fun z => c ((nI_eq (b := 32) (by omega) (by decide)).mp z)), if_neg (fun z => c z.2)]
theorem e_take_tok {w : Wd} {T : Nat → Nat} {N : Nat} (h : hTx w T N) {L b e : Nat} {A : Nat → Int32} (he : e ≤ N) : f_X4_takeToken (cR w L b e A) = some (cR w L (tB T N e) (tE T N e) A) := by
  have hN := h.1
  unfold f_X4_takeToken
  rw [cR_34, cR_s3, e_tt_8 h fu e 200 he (Nat.lt_of_le_of_lt (show N - e ≤ 200 by omega) (by decide)) (by omega)]
  exact e_tt_54 h (skN_b T N 200 e he).2
/-- words -/
def stN : List (List Nat) := [[59], [98, 117, 110, 100, 108, 101], [109, 97, 114, 107], [121, 101, 97, 114], [111, 118, 101, 114], [116, 101, 97, 109], [115, 108, 97, 99, 107], [103, 97, 112], [101, 97, 115, 116], [110, 111, 114, 116, 104], [108, 101, 102, 116], [114, 105, 103, 104, 116]]
def wLn (k : Nat) : Nat := stl.getD k 0
def wCh (k j : Nat) : Nat := (stN.getD k []).getD j 0
theorem stb_N : ∀ k, k < 12 → ∀ j, j < 6 → (stb.getD k []).getD j 0 = nI (wCh k j) ∧ wCh k j ≤ 255 := by decide +kernel
theorem wLn_b : ∀ k, k < 12 → 1 ≤ wLn k ∧ wLn k ≤ 6 := by decide +kernel
def isW (T : Nat → Nat) (b e k : Nat) : Bool := decide (e - b = wLn k) && alB (fun j => decide (T (b + j) = wCh k j)) (wLn k)
theorem e_len {k : Nat} (hk : k < 12) (v : Wd) : f_J0_length_8abf5 (70 + k) v = some (nI (wLn k), v) := by
  unfold f_J0_length_8abf5
  rw [if_pos ⟨by omega, by omega⟩, Nat.add_sub_cancel_left]; rfl
theorem e_char {k j : Nat} (hk : k < 12) (hj : j < wLn k) (v : Wd) : f_J0_charAt_5068e (70 + k) (nI j) v = some (nI (wCh k j), v) := by
  have hb := wLn_b k hk
  unfold f_J0_charAt_5068e
  rw [if_pos ⟨by omega, by omega⟩, Nat.add_sub_cancel_left, inB_nI (show j < stl.getD k 0 from hj) (Nat.lt_of_le_of_lt (show stl.getD k 0 ≤ 6 from hb.2) (by decide)), if_pos rfl, ix_nI (by omega), (stb_N k hk j (by omega)).1]
theorem e_tis_20 {w : Wd} {T : Nat → Nat} {N : Nat} (h : hTx w T N) {L b e k : Nat} {A : Nat → Int32} (hk : k < 12) (hbe : b + wLn k ≤ N) : ∀ (n i : Nat), i ≤ wLn k → wLn k - i < n → alB (fun j => decide (T (b + j) = wCh k j)) i = true → f_X4_tokenIs_20 n (70 + k) (nI i) (cR w L b e A) = some (b2i (alB (fun j => decide (T (b + j) = wCh k j)) (wLn k)), cR w L b e A) := by
  have hN := h.1
  have hl := wLn_b k hk
  intro n
  induction n with
  | zero => intro i _ h; omega
  | succ n ih =>
    intro i hi hn hal
    rw [f_X4_tokenIs_20, e_len hk, Option.bind_some]
    dsimp only
    by_cases c : i = wLn k
    · subst c
      rw [if_pos (nI_le (Nat.le_refl _) (by omega)), hal]; rfl
    · have hi' : i < wLn k := by omega
      have hc := (h.2.1 (b + i) (by omega)).2
      have hd := (stb_N k hk i (by omega)).2
      rw [if_neg (nI_ge hi' (by omega)), e_char hk hi', Option.bind_some]
      dsimp only
      rw [cR_33, nI_add, cR_text h (by omega), Option.bind_some]
      dsimp only
      by_cases c2 : T (b + i) = wCh k i
      · rw [if_pos (by rw [c2]), p1]
        exact ih (i + 1) (by omega) (by omega) (by rw [alB, hal, decide_eq_true c2]; rfl)
      · rw [if_neg (fun z => c2 ((nI_eq (by omega) (by omega)).mp z).symm)]
        have h1 : alB (fun j => decide (T (b + j) = wCh k j)) (i + 1) = false := by rw [alB, decide_eq_false c2, Bool.and_false]
        have := alB_f h1 (wLn k - (i + 1))
        rw [show i + 1 + (wLn k - (i + 1)) = wLn k by omega] at this
        rw [this]; rfl
theorem e_tis {w : Wd} {T : Nat → Nat} {N : Nat} (h : hTx w T N) {L b e k : Nat} {A : Nat → Int32} (hk : k < 12) (hbe : b ≤ e) (heN : e ≤ N) : f_X4_tokenIs (70 + k) (cR w L b e A) = some (b2i (isW T b e k), cR w L b e A) := by
  have hN := h.1
  have hl := wLn_b k hk
  unfold f_X4_tokenIs isW
  rw [e_len hk, Option.bind_some, cR_33, cR_34, pk_sub hbe]
  dsimp only
  by_cases c : e - b = wLn k
  · rw [if_pos (by rw [c]), decide_eq_true c, Bool.true_and]
    exact e_tis_20 h hk (by omega) fu 0 (Nat.zero_le _) (Nat.lt_of_le_of_lt (show wLn k - 0 ≤ 6 by omega) (by decide)) rfl
  · rw [if_neg (fun z => c ((nI_eq (by omega) (by omega)).mp z)), decide_eq_false c, Bool.false_and]; rfl
/-- the kind of line -/
def kdN (T : Nat → Nat) (b e : Nat) : Nat := fa_first (fun k => isW T b e (1 + k)) 7
def nI' (k m : Nat) : Int32 := if k < m then nI k else -1
theorem e_name {k : Nat} (hk : k < 7) (v : Wd) : f_X4_nameOf (nI k) v = some (70 + (1 + k), v) := by
  unfold f_X4_nameOf
  rcases (by omega : k = 0 ∨ k = 1 ∨ k = 2 ∨ k = 3 ∨ k = 4 ∨ k = 5 ∨ k = 6) with e | e | e | e | e | e | e <;> subst e <;> rfl
theorem e_kind_2 {w : Wd} {T : Nat → Nat} {N : Nat} (h : hTx w T N) {L b e : Nat} {A : Nat → Int32} (hbe : b ≤ e) (heN : e ≤ N) : ∀ (n i : Nat), i ≤ 7 → 7 - i < n → (∀ j, j < i → isW T b e (1 + j) = false) → f_X4_kindTold_2 n (nI i) (cR w L b e A) = some (nI' (kdN T b e) 7, cR w L b e A) := by
  intro n
  induction n with
  | zero => intro i _ h; omega
  | succ n ih =>
    intro i hi hn hj
    rw [f_X4_kindTold_2]
    by_cases c : i = 7
    · subst c
      rw [if_pos (by decide)]
      unfold nI'
      rw [if_neg (fun z => by
        have h2 : isW T b e (1 + kdN T b e) = true := fa_first_yes (fun k => isW T b e (1 + k)) 7 z
        rw [hj _ z] at h2; cases h2)]
    · have hi7 : i < 7 := by omega
      rw [if_neg (n7 hi7), e_name hi7, Option.bind_some]
      dsimp only
      rw [e_tis h (by omega) hbe heN, Option.bind_some]
      dsimp only
      cases hw : isW T b e (1 + i) with
      | false =>
        rw [if_pos bz, p1]
        exact ih (i + 1) (by omega) (by omega) (fun j hj' => by
          by_cases e : j = i
          · subst e; exact hw
          · exact hj j (by omega))
      | true =>
        rw [if_neg bnz]
        have : kdN T b e = i := fst_is hi7 hw hj
        unfold nI'
        rw [this, if_pos hi7]
theorem e_kind {w : Wd} {T : Nat → Nat} {N : Nat} (h : hTx w T N) {L b e : Nat} {A : Nat → Int32} (hbe : b ≤ e) (heN : e ≤ N) : f_X4_kindTold (cR w L b e A) = some (nI' (kdN T b e) 7, cR w L b e A) := e_kind_2 h hbe heN fu 0 (by decide) (by decide) (fun j hj => by omega)
/-- one of two words -/
def wwO (T : Nat → Nat) (b e k : Nat) : Option Nat := if isW T b e k then some 0 else if isW T b e (k + 1) then some 1 else none
def oI : Option Nat → Int32
  | none => -1
  | some v => nI v
theorem e_which {w : Wd} {T : Nat → Nat} {N : Nat} (h : hTx w T N) {L b e k : Nat} {A : Nat → Int32} (hk : k + 1 < 12) (hbe : b ≤ e) (heN : e ≤ N) : f_X4_whichWord (70 + k) (70 + (k + 1)) (cR w L b e A) = some (oI (wwO T b e k), cR w L b e A) := by
  unfold f_X4_whichWord wwO
  rw [e_tis h (by omega) hbe heN, Option.bind_some]
  dsimp only
  cases isW T b e k with
  | true => rw [if_neg bnz]; rfl
  | false =>
    rw [if_pos bz, e_tis h hk hbe heN, Option.bind_some]
    dsimp only
    cases isW T b e (k + 1) <;> rfl
/-- a number -/
def nvN (T : Nat → Nat) (b : Nat) : Nat → Nat
  | 0 => 0
  | k + 1 => 10 * nvN T b k + (T (b + k) - 48)
def nmO (T : Nat → Nat) (b e : Nat) : Option Nat := if b < e ∧ e - b ≤ 4 ∧ srt (T b) = 1 then some (nvN T b (e - b)) else none
theorem srt_1 {c : Nat} (h : srt c = 1) : 48 ≤ c ∧ c ≤ 57 := by
  unfold srt at h
  split at h
  · omega
  · split at h
    · assumption
    · omega
theorem srt_0 {c : Nat} : srt c = 0 ↔ 97 ≤ c ∧ c ≤ 122 := by
  unfold srt
  by_cases h : 97 ≤ c ∧ c ≤ 122
  · rw [if_pos h]; exact ⟨fun _ => h, fun _ => rfl⟩
  · rw [if_neg h]
    constructor
    · intro z; split at z <;> omega
    · intro z; exact absurd z h
theorem nvN_b {T : Nat → Nat} {b : Nat} : ∀ k, (∀ j, j < k → srt (T (b + j)) = 1) → nvN T b k < 10 ^ k
  | 0, _ => by show (0 : Nat) < 1; decide
  | k + 1, h => by
    have ih := nvN_b (T := T) (b := b) k (fun j hj => h j (by omega))
    have := srt_1 (h k (by omega))
    rw [nvN, Nat.pow_succ]
    omega
theorem e_num_54 {w : Wd} {T : Nat → Nat} {N : Nat} (h : hTx w T N) {L b e : Nat} {A : Nat → Int32} (hbe : b ≤ e) (heN : e ≤ N) (hd : ∀ j, j < e - b → srt (T (b + j)) = 1) : ∀ (n i : Nat), b + i ≤ e → e - (b + i) < n → f_X4_tokenNumber_54 n (nI (nvN T b i)) (nI (b + i)) (cR w L b e A) = some (nI (nvN T b (e - b)), cR w L b e A) := by
  have hN := h.1
  intro n
  induction n with
  | zero => intro i _ h; omega
  | succ n ih =>
    intro i hi hn
    rw [f_X4_tokenNumber_54, cR_34]
    by_cases c : b + i = e
    · rw [if_pos (nI_le (by omega) (by omega)), show i = e - b by omega]
    · have hs := srt_1 (hd i (by omega))
      have i1 := ih (i + 1) (by omega) (by omega)
      rw [if_neg (nI_ge (by omega) (by omega)), cR_text h (by omega), Option.bind_some]
      dsimp only
      rw [p1, show nI (nvN T b i) * 10 = nI (nvN T b i * 10) from pk_mul _ 10, nI_add, show nI (nvN T b i * 10 + T (b + i)) - 48 = nI (nvN T b i * 10 + T (b + i) - 48) from pk_sub (b := 48) (by omega)]
      rw [nvN, show 10 * nvN T b i + (T (b + i) - 48) = nvN T b i * 10 + T (b + i) - 48 by omega] at i1
      exact i1
theorem e_number {w : Wd} {T : Nat → Nat} {N : Nat} (h : hTx w T N) {L p : Nat} {A : Nat → Int32} (hp : p ≤ N) : f_X4_tokenNumber (cR w L (tB T N p) (tE T N p) A) = some (oI (nmO T (tB T N p) (tE T N p)), cR w L (tB T N p) (tE T N p) A) := by
  have hN := h.1
  have h1 := tB_b T hp
  have h2 := tE_b T hp
  unfold f_X4_tokenNumber nmO
  rw [cR_33, cR_34]
  by_cases c1 : tB T N p = tE T N p
  · rw [if_pos (by rw [← c1]), if_neg (by omega)]; rfl
  · rw [if_neg (fun z => c1 ((nI_eq (by omega) (by omega)).mp z)), pk_sub h2.1]
    by_cases c2 : tE T N p - tB T N p ≤ 4
    · have hc := (h.2.1 (tB T N p) (by omega)).2
      rw [if_neg (show ¬ (4 : Int32) < nI (tE T N p - tB T N p) from nI_nlt (a := 4) c2 (by omega)), cR_text h (by omega), Option.bind_some]
      dsimp only
      have hsb := srt_b (T (tB T N p))
      rw [e_sort hc, Option.bind_some]
      dsimp only
      by_cases c3 : srt (T (tB T N p)) = 1
      · rw [if_pos (by rw [c3]; rfl), if_pos ⟨by omega, c2, c3⟩, cR_33]
        exact e_num_54 h h2.1 h2.2.1 (fun j hj => by
          have := tE_s T hp (j := tB T N p + j) (by omega) (by omega) (by omega)
          rw [this, c3]) fu 0 (by omega) (Nat.lt_of_le_of_lt (show tE T N p - (tB T N p + 0) ≤ 200 by omega) (by decide))
      · rw [if_neg (show ¬ nI (srt (T (tB T N p))) = 1 from fun z => c3 ((nI_eq (b := 1) (by omega) (by decide)).mp z)), if_neg (fun z => c3 z.2.2)]; rfl
    · rw [if_pos (show (4 : Int32) < nI (tE T N p - tB T N p) from nI_lt (a := 4) (by omega) (by omega)), if_neg (fun z => c2 z.2.1)]; rfl
