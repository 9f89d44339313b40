/-! the reference's tokens -/
def m33 (w : Wd) (p t d n f r : Int32) : Nat → Int32 := fun j => if j = 17 then p else if j = 18 then t else if j = 20 then d else if j = 21 then n else if j = 22 then f else if j = 23 then r else w.1 33 j
def mR (w : Wd) (p t d n f r : Int32) (A : Nat → Int32) (k : Int64) : Wd := wL (w2 w 33 45 (m33 w p t d n f r) A) k
section
variable {w : Wd} {p t d n f r : Int32} {A : Nat → Int32} {k : Int64}
theorem mR_33 : (mR w p t d n f r A k).1 33 = m33 w p t d n f r := by
  show (w2 w 33 45 (m33 w p t d n f r) A).1 33 = _
  exact w2_a (by decide) _ _
theorem mR_45 : (mR w p t d n f r A k).1 45 = A := by
  show (w2 w 33 45 (m33 w p t d n f r) A).1 45 = _
  exact w2_b _ _
theorem mR_n {a : Nat} (h3 : a ≠ 33) (h4 : a ≠ 45) : (mR w p t d n f r A k).1 a = w.1 a := w2_n h3 h4 _ _
theorem mR_2 : (mR w p t d n f r A k).2 = k := rfl
theorem mR_17 : (mR w p t d n f r A k).1 33 17 = p := by rw [mR_33]; rfl
theorem mR_18 : (mR w p t d n f r A k).1 33 18 = t := by rw [mR_33]; rfl
theorem mR_20 : (mR w p t d n f r A k).1 33 20 = d := by rw [mR_33]; rfl
theorem mR_21 : (mR w p t d n f r A k).1 33 21 = n := by rw [mR_33]; rfl
theorem mR_22 : (mR w p t d n f r A k).1 33 22 = f := by rw [mR_33]; rfl
theorem mR_23 : (mR w p t d n f r A k).1 33 23 = r := by rw [mR_33]; rfl
theorem mR_15 : (mR w p t d n f r A k).1 33 15 = w.1 33 15 := by rw [mR_33]; rfl
theorem m33_17 (x : Int32) : upd (m33 w p t d n f r) 17 x = m33 w x t d n f r := by
  funext j; unfold upd m33
  by_cases h : j = 17
  · subst h; rfl
  · simp only [h, if_false]
theorem m33_18 (x : Int32) : upd (m33 w p t d n f r) 18 x = m33 w p x d n f r := by
  funext j; unfold upd m33
  by_cases h : j = 18
  · subst h; rfl
  · simp only [h, if_false]
theorem m33_20 (x : Int32) : upd (m33 w p t d n f r) 20 x = m33 w p t x n f r := by
  funext j; unfold upd m33
  by_cases h : j = 20
  · subst h; rfl
  · simp only [h, if_false]
theorem m33_21 (x : Int32) : upd (m33 w p t d n f r) 21 x = m33 w p t d x f r := by
  funext j; unfold upd m33
  by_cases h : j = 21
  · subst h; rfl
  · simp only [h, if_false]
theorem m33_22 (x : Int32) : upd (m33 w p t d n f r) 22 x = m33 w p t d n x r := by
  funext j; unfold upd m33
  by_cases h : j = 22
  · subst h; rfl
  · simp only [h, if_false]
theorem m33_23 (x : Int32) : upd (m33 w p t d n f r) 23 x = m33 w p t d n f x := by
  funext j; unfold upd m33
  by_cases h : j = 23
  · subst h; rfl
  · simp only [h, if_false]
theorem mR_a (F : Nat → Int32) : wA (mR w p t d n f r A k) 33 F = wL (w2 w 33 45 F A) k := by
  show wL (wA (w2 w 33 45 (m33 w p t d n f r) A) 33 F) k = _
  rw [w2_wa (by decide)]
theorem mR_s17 (x : Int32) : wS (mR w p t d n f r A k) 33 17 x = mR w x t d n f r A k := by rw [wS_d, mR_33, m33_17, mR_a]; rfl
theorem mR_s18 (x : Int32) : wS (mR w p t d n f r A k) 33 18 x = mR w p x d n f r A k := by rw [wS_d, mR_33, m33_18, mR_a]; rfl
theorem mR_s20 (x : Int32) : wS (mR w p t d n f r A k) 33 20 x = mR w p t x n f r A k := by rw [wS_d, mR_33, m33_20, mR_a]; rfl
theorem mR_s21 (x : Int32) : wS (mR w p t d n f r A k) 33 21 x = mR w p t d x f r A k := by rw [wS_d, mR_33, m33_21, mR_a]; rfl
theorem mR_s22 (x : Int32) : wS (mR w p t d n f r A k) 33 22 x = mR w p t d n x r A k := by rw [wS_d, mR_33, m33_22, mR_a]; rfl
theorem mR_s23 (x : Int32) : wS (mR w p t d n f r A k) 33 23 x = mR w p t d n f x A k := by rw [wS_d, mR_33, m33_23, mR_a]; rfl
theorem mR_s45 (i : Nat) (x : Int32) : wS (mR w p t d n f r A k) 45 i x = mR w p t d n f r (upd A i x) k := by
  rw [wS_d, mR_45]
  show wL (wA (w2 w 33 45 (m33 w p t d n f r) A) 45 (upd A i x)) k = _
  rw [w2_wb]; rfl
theorem mR_L (x : Int64) : wL (mR w p t d n f r A k) x = mR w p t d n f r A x := rfl
theorem mR_sim : sim w (mR w p t d n f r A k) := by
  intro a j e
  by_cases h3 : a = 33
  · subst h3
    rw [mR_33]
    have e : ((decide (17 ≤ j) && decide (j ≤ 23)) || decide (j = 32) || decide (j = 33)) = false := e
    have : ¬ (17 ≤ j ∧ j ≤ 23) := fun z => by
      rw [decide_eq_true z.1, decide_eq_true z.2] at e; cases e
    unfold m33
    rw [if_neg (by omega), if_neg (by omega), if_neg (by omega), if_neg (by omega), if_neg (by omega), if_neg (by omega)]
  · by_cases h4 : a = 45
    · subst h4; cases e
    · rw [mR_n h3 h4]
end
/-- the text in the reference's cells -/
def hTm (w : Wd) (T : Nat → Nat) (N : Nat) : Prop := N ≤ 200 ∧ (∀ j, j < 200 → w.1 44 j = nI (T j) ∧ T j ≤ 255) ∧ w.1 33 15 = nI N
def lwN (T : Nat → Nat) (b : Nat) : Nat → Nat
  | 0 => 0
  | k + 1 => 27 * lwN T b k + (T (b + k) - 96)
def lkW (T : Nat → Nat) (b e : Nat) : Int64 := if e - b ≤ 9 then lN (lwN T b (e - b)) else -4
def nv4 (T : Nat → Nat) (b k : Nat) : Nat := nvN T b (if k ≤ 4 then k else 4)
def tkV (T : Nat → Nat) (N b e : Nat) : Int64 := if b = N then -2 else if srt (T b) = 0 then lkW T b e else if srt (T b) = 1 then (if e - b ≤ 4 then -1 else -4) else if T b = 59 then -3 else -4
def isD (T : Nat → Nat) (N b : Nat) : Prop := b < N ∧ srt (T b) = 1
theorem srt_w0 {c : Nat} (hc : c ≤ 255) : wi (nI c) 97 122 = decide (srt c = 0) := by
  rw [show wi (nI c) 97 122 = (decide (97 ≤ c) && decide (c ≤ 122)) from wi_N (a := 97) (b := 122) (by omega) (by decide) (by decide), Bool.eq_iff_iff]
  simp only [Bool.and_eq_true, decide_eq_true_eq]
  exact srt_0.symm
theorem srt_w1 {c : Nat} (hc : c ≤ 255) : wi (nI c) 48 57 = decide (srt c = 1) := by
  rw [show wi (nI c) 48 57 = (decide (48 ≤ c) && decide (c ≤ 57)) from wi_N (a := 48) (b := 57) (by omega) (by decide) (by decide), Bool.eq_iff_iff]
  simp only [Bool.and_eq_true, decide_eq_true_eq]
  constructor
  · intro z
    unfold srt
    rw [if_neg (by omega), if_pos z]
  · exact srt_1
theorem bzD {c : Prop} [Decidable c] (h : ¬ c) : b2i (decide c) = 0 := by rw [decide_eq_false h]; rfl
theorem bnD {c : Prop} [Decidable c] (h : c) : ¬ b2i (decide c) = 0 := by rw [decide_eq_true h]; decide
theorem m_175 {w : Wd} {t d n f r : Int32} {A : Nat → Int32} {p : Nat} (g : Wd → Option Wd) (k s : Int64) : f_X10_nextToken_175 g s (mR w (nI p) t d n f r A k) = g (mR w (nI (p + 1)) t d n f r A s) := by
  unfold f_X10_nextToken_175
  rw [mR_L, mR_17, p1, mR_s17]
theorem m_307 {w : Wd} {t n f r : Int32} {A : Nat → Int32} {p d : Nat} {k : Int64} (g : Wd → Option Wd) (s : Int32) : f_X10_nextToken_307 g s (mR w (nI p) t (nI d) n f r A k) = g (mR w (nI (p + 1)) t (nI (d + 1)) s f r A k) := by
  unfold f_X10_nextToken_307
  rw [mR_s21, mR_20, p1, mR_s20, mR_17, p1, mR_s17]
theorem m_191 {w : Wd} {T : Nat → Nat} {d n f r : Int32} {A : Nat → Int32} {b e : Nat} (hbe : b ≤ e) (he : e ≤ 200) : f_X10_nextToken_191 (mR w (nI e) (nI b) d n f r A (lkW T b e)) = some (mR w (nI e) (nI b) d n f r A (lkW T b e)) := by
  unfold f_X10_nextToken_191
  rw [mR_17, mR_18, pk_sub hbe]
  by_cases c : e - b ≤ 9
  · rw [if_pos (show nI (e - b) ≤ 9 from nI_le (b := 9) c (by decide)), mR_2, mR_L]
  · rw [if_neg (show ¬ nI (e - b) ≤ 9 from nI_ge (a := 9) (by omega) (by omega)), mR_L, show lkW T b e = -4 from if_neg c]
theorem m_101 {w : Wd} {T : Nat → Nat} {N : Nat} (h : hTm w T N) {b : Nat} {d n f r : Int32} {A : Nat → Int32} : ∀ (m p k : Nat), b ≤ p → p ≤ N → N - p < m → N - p ≤ k → f_X10_nextToken_101 m (mR w (nI p) (nI b) d n f r A (lkW T b p)) = some (mR w (nI (rnN T N 0 k p)) (nI b) d n f r A (lkW T b (rnN T N 0 k p))) := by
  have hN := h.1
  intro m
  induction m with
  | zero => intro p k _ _ h; omega
  | succ m ih =>
    intro p k hb hp hm hk
    rw [f_X10_nextToken_101, mR_15, h.2.2, mR_17]
    by_cases hpN : p = N
    · subst hpN
      rw [if_pos (nI_le (Nat.le_refl _) (by omega)), m_191 hb (by omega)]
      cases k with
      | zero => rfl
      | succ k => rw [rnN, if_neg (by omega)]
    · have hp' : p < N := by omega
      obtain ⟨k, rfl⟩ : ∃ j, k = j + 1 := ⟨k - 1, by omega⟩
      have hc := h.2.1 p (by omega)
      rw [if_neg (nI_ge hp' (by omega)), inB_nI (by omega) (by decide), if_pos rfl, ix_nI (by omega), mR_n (by decide) (by decide), hc.1, e_in, Option.bind_some, srt_w0 hc.2, rnN]
      dsimp only
      by_cases c : srt (T p) = 0
      · have hl := srt_0.mp c
        rw [if_neg (bnD c), if_pos (show p < N ∧ srt (T p) = 0 from ⟨hp', c⟩), mR_17, mR_18, pk_sub hb]
        have i1 := ih (p + 1) k (by omega) (by omega) (by omega) (by omega)
        by_cases c9 : p - b < 9
        · rw [if_neg (show ¬ (9 : Int32) ≤ nI (p - b) from nI_ge (b := 9) c9 (by decide)), inB_nI (by omega) (by decide), if_pos rfl, m_175, mR_2, ix_nI (by omega), mR_n (by decide) (by decide), hc.1]
          have e1 : (27 : Int64) * lkW T b p + Int32.toInt64 (nI (T p)) - 96 = lkW T b (p + 1) := by
            rw [show lkW T b p = lN (lwN T b (p - b)) from if_pos (by omega), show lkW T b (p + 1) = lN (lwN T b (p + 1 - b)) from if_pos (by omega), nI_l (by omega), show (27 : Int64) * lN (lwN T b (p - b)) = lN (27 * lwN T b (p - b)) from lN_mul 27 _, lN_add, show lN (27 * lwN T b (p - b) + T p) - 96 = lN (27 * lwN T b (p - b) + T p - 96) from lN_sub (b := 96) (by omega), show p + 1 - b = (p - b) + 1 by omega, lwN, show b + (p - b) = p by omega, show 27 * lwN T b (p - b) + T p - 96 = 27 * lwN T b (p - b) + (T p - 96) by omega]
          rw [e1]
          exact i1
        · rw [if_pos (show (9 : Int32) ≤ nI (p - b) from nI_le (a := 9) (by omega) (by omega)), m_175]
          rw [show lkW T b (p + 1) = -4 from if_neg (by omega)] at i1
          exact i1
      · rw [if_pos (bzD c), if_neg (fun z => c z.2)]
        exact m_191 hb (by omega)
theorem m_333 {w : Wd} {t n f r : Int32} {A : Nat → Int32} {k : Int64} {p d : Nat} (hd : d ≤ 200) : f_X10_nextToken_333 (mR w (nI p) t (nI d) n f r A k) = some (mR w (nI p) t (nI d) n f r A (if d ≤ 4 then -1 else -4)) := by
  unfold f_X10_nextToken_333
  rw [mR_20]
  by_cases c : d ≤ 4
  · rw [if_pos (show nI d ≤ 4 from nI_le (b := 4) c (by decide)), if_pos c, mR_L]
  · rw [if_neg (show ¬ nI d ≤ 4 from nI_ge (a := 4) (by omega) (by omega)), if_neg c, mR_L]
theorem m_241 {w : Wd} {T : Nat → Nat} {N : Nat} (h : hTm w T N) {b : Nat} {f r : Int32} {A : Nat → Int32} {tk : Int64} : ∀ (m p k : Nat), b ≤ p → p ≤ N → N - p < m → N - p ≤ k → f_X10_nextToken_241 m (mR w (nI p) (nI b) (nI (p - b)) (nI (nv4 T b (p - b))) f r A tk) = some (mR w (nI (rnN T N 1 k p)) (nI b) (nI (rnN T N 1 k p - b)) (nI (nv4 T b (rnN T N 1 k p - b))) f r A (if rnN T N 1 k p - b ≤ 4 then -1 else -4)) := by
  have hN := h.1
  intro m
  induction m with
  | zero => intro p k _ _ h; omega
  | succ m ih =>
    intro p k hb hp hm hk
    rw [f_X10_nextToken_241, mR_15, h.2.2, mR_17]
    by_cases hpN : p = N
    · subst hpN
      rw [if_pos (nI_le (Nat.le_refl _) (by omega)), m_333 (by omega)]
      cases k with
      | zero => rfl
      | succ k => rw [rnN, if_neg (show ¬ (p < p ∧ srt (T p) = 1) from fun z => absurd z.1 (Nat.lt_irrefl _))]
    · have hp' : p < N := by omega
      obtain ⟨k, rfl⟩ : ∃ j, k = j + 1 := ⟨k - 1, by omega⟩
      have hc := h.2.1 p (by omega)
      rw [if_neg (nI_ge hp' (by omega)), inB_nI (by omega) (by decide), if_pos rfl, ix_nI (by omega), mR_n (by decide) (by decide), hc.1, e_in, Option.bind_some, srt_w1 hc.2, rnN]
      dsimp only
      by_cases c : srt (T p) = 1
      · have hl := srt_1 c
        rw [if_neg (bnD c), if_pos (show p < N ∧ srt (T p) = 1 from ⟨hp', c⟩), mR_20, mR_21]
        have i1 := ih (p + 1) k (by omega) (by omega) (by omega) (by omega)
        rw [show p + 1 - b = (p - b) + 1 by omega] at i1
        by_cases c4 : p - b < 4
        · rw [if_neg (n4 c4), mR_17, inB_nI (by omega) (by decide), if_pos rfl, m_307, ix_nI (by omega), mR_n (by decide) (by decide), hc.1]
          have e1 : (10 : Int32) * nI (nv4 T b (p - b)) + nI (T p) - 48 = nI (nv4 T b ((p - b) + 1)) := by
            unfold nv4
            rw [if_pos (show p - b ≤ 4 by omega), if_pos (show (p - b) + 1 ≤ 4 by omega), show (10 : Int32) * nI (nvN T b (p - b)) = nI (10 * nvN T b (p - b)) from pk_mul 10 _, nI_add, show nI (10 * nvN T b (p - b) + T p) - 48 = nI (10 * nvN T b (p - b) + T p - 48) from pk_sub (b := 48) (by omega), nvN, show b + (p - b) = p by omega, show 10 * nvN T b (p - b) + T p - 48 = 10 * nvN T b (p - b) + (T p - 48) by omega]
          rw [e1]
          exact i1
        · rw [if_pos (show (4 : Int32) ≤ nI (p - b) from nI_le (a := 4) (by omega) (by omega)), m_307]
          have e1 : nv4 T b (p - b) = nv4 T b ((p - b) + 1) := by
            unfold nv4
            rw [if_neg (show ¬ (p - b) + 1 ≤ 4 by omega)]
            by_cases c5 : p - b ≤ 4
            · rw [if_pos c5, show p - b = 4 by omega]
            · rw [if_neg c5]
          rw [e1]
          exact i1
      · rw [if_pos (bzD c), if_neg (fun z => c z.2)]
        exact m_333 (by omega)
theorem m_381 {w : Wd} {t d n f r : Int32} {A : Nat → Int32} {p : Nat} (k s : Int64) : f_X10_nextToken_381 s (mR w (nI p) t d n f r A k) = some (mR w (nI (p + 1)) t d n f r A s) := by
  unfold f_X10_nextToken_381
  rw [mR_L, mR_17, p1, mR_s17]
/-- where the token at p ends -/
def tF (T : Nat → Nat) (N p : Nat) : Nat := if p < N then (if srt (T p) = 2 then p + 1 else rnN T N (srt (T p)) 200 (p + 1)) else p
theorem tE_F (T : Nat → Nat) (N p : Nat) : tE T N p = tF T N (tB T N p) := rfl
theorem rn_1 {T : Nat → Nat} {N p s : Nat} (hp : p < N) (hs : srt (T p) = s) : rnN T N s 201 p = rnN T N s 200 (p + 1) := by
  rw [rnN, if_pos ⟨hp, hs⟩]
theorem m_38 {w : Wd} {T : Nat → Nat} {N : Nat} (h : hTm w T N) {p : Nat} {t d n f r : Int32} {A : Nat → Int32} {k : Int64} (hp : p ≤ N) : ∃ d' n', f_X10_nextToken_38 (mR w (nI p) t d n f r A k) = some (mR w (nI (tF T N p)) (nI p) d' n' f r A (tkV T N p (tF T N p))) ∧ (isD T N p → n' = nI (nv4 T p (tF T N p - p))) := by
  have hN := h.1
  unfold f_X10_nextToken_38
  rw [mR_17, mR_s18, mR_s20, mR_s21, mR_17, mR_15, h.2.2]
  by_cases hpN : p = N
  · subst hpN
    rw [if_pos rfl, mR_L]
    refine ⟨0, 0, ?_, fun z => by unfold isD at z; omega⟩
    unfold tF tkV
    rw [if_neg (Nat.lt_irrefl _), if_pos rfl]
  · have hp' : p < N := by omega
    have hc := h.2.1 p (by omega)
    have hsb := srt_b (T p)
    rw [if_neg (fun z => hpN ((nI_eq (by omega) (by omega)).mp z)), inB_nI (by omega) (by decide), if_pos rfl, ix_nI (by omega), mR_n (by decide) (by decide), hc.1, e_in, Option.bind_some, srt_w0 hc.2]
    dsimp only
    by_cases c0 : srt (T p) = 0
    · have ef : tF T N p = rnN T N 0 200 (p + 1) := by
        unfold tF
        rw [if_pos hp', if_neg (show ¬ srt (T p) = 2 by omega), c0]
      have ek : ∀ e, tkV T N p e = lkW T p e := fun e => by unfold tkV; rw [if_neg hpN, if_pos c0]
      have e0 : (0 : Int64) = lkW T p p := by unfold lkW; rw [Nat.sub_self]; rfl
      rw [if_neg (bnD c0), mR_L, e0, m_101 h fu p 201 (Nat.le_refl _) hp (Nat.lt_of_le_of_lt (show N - p ≤ 200 by omega) (by decide)) (by omega), rn_1 hp' c0, ef]
      exact ⟨0, 0, by rw [ek], fun z => by have := z.2; omega⟩
    · rw [if_pos (bzD c0), mR_17, inB_nI (by omega) (by decide), if_pos rfl, ix_nI (by omega), mR_n (by decide) (by decide), hc.1, e_in, Option.bind_some, srt_w1 hc.2]
      dsimp only
      by_cases c1 : srt (T p) = 1
      · have ef : tF T N p = rnN T N 1 200 (p + 1) := by
          unfold tF
          rw [if_pos hp', if_neg (show ¬ srt (T p) = 2 by omega), c1]
        have ek : ∀ e, tkV T N p e = if e - p ≤ 4 then -1 else -4 := fun e => by unfold tkV; rw [if_neg hpN, if_neg c0, if_pos c1]
        have i1 := m_241 h (b := p) (f := f) (r := r) (A := A) (tk := k) fu p 201 (Nat.le_refl _) hp (Nat.lt_of_le_of_lt (show N - p ≤ 200 by omega) (by decide)) (by omega)
        rw [rn_1 hp' c1, Nat.sub_self, ← ef] at i1
        rw [if_neg (bnD c1)]
        exact ⟨nI (tF T N p - p), nI (nv4 T p (tF T N p - p)), by rw [ek]; exact i1, fun _ => rfl⟩
      · have c2 : srt (T p) = 2 := by omega
        have ef : tF T N p = p + 1 := by
          unfold tF
          rw [if_pos hp', if_pos c2]
        have ek : ∀ e, tkV T N p e = if T p = 59 then -3 else -4 := fun e => by unfold tkV; rw [if_neg hpN, if_neg c0, if_neg c1]
        rw [if_pos (bzD c1), mR_17, inB_nI (by omega) (by decide), if_pos rfl, ix_nI (by omega), mR_n (by decide) (by decide), hc.1]
        refine ⟨0, 0, ?_, fun z => absurd z.2 c1⟩
        rw [ek, ef]
        by_cases c : T p = 59
        · rw [if_pos (show nI (T p) = 59 by rw [c]; rfl), if_pos c, m_381]
        · rw [if_neg (show ¬ nI (T p) = 59 from fun z => c ((nI_eq (b := 59) (by omega) (by decide)).mp z)), if_neg c, m_381]
theorem m_nt_0 {w : Wd} {T : Nat → Nat} {N : Nat} (h : hTm w T N) {t d n f r : Int32} {A : Nat → Int32} {tk : Int64} : ∀ (m p k : Nat), p ≤ N → N - p < m → N - p ≤ k → f_X10_nextToken_0 m (mR w (nI p) t d n f r A tk) = f_X10_nextToken_38 (mR w (nI (skN T N k p)) t d n f r A tk) := by
  have hN := h.1
  intro m
  induction m with
  | zero => intro p k _ h; omega
  | succ m ih =>
    intro p k hp hm hk
    rw [f_X10_nextToken_0, mR_15, h.2.2, mR_17]
    by_cases hpN : p = N
    · subst hpN
      rw [if_pos (nI_le (Nat.le_refl _) (by omega))]
      cases k with
      | zero => rfl
      | succ k => rw [skN, if_neg (by omega)]
    · have hp' : p < N := by omega
      obtain ⟨k, rfl⟩ : ∃ j, k = j + 1 := ⟨k - 1, by omega⟩
      have hc := h.2.1 p (by omega)
      rw [if_neg (nI_ge hp' (by omega)), inB_nI (by omega) (by decide), if_pos rfl, ix_nI (by omega), mR_n (by decide) (by decide), hc.1, skN]
      by_cases c : T p = 32
      · rw [if_pos (by rw [c]; rfl), if_pos ⟨hp', c⟩, p1, mR_s17]
        exact ih (p + 1) k (by omega) (by omega) (by omega)
      · rw [if_neg (show ¬ nI (T p) = 32 from fun z => c ((nI_eq (b := 32) (by omega) (by decide)).mp z)), if_neg (fun z => c z.2)]
theorem m_next {w : Wd} {T : Nat → Nat} {N : Nat} (h : hTm w T N) {p : Nat} {t d n f r : Int32} {A : Nat → Int32} {k : Int64} (hp : p ≤ N) : ∃ d' n', f_X10_nextToken (mR w (nI p) t d n f r A k) = some (mR w (nI (tE T N p)) (nI (tB T N p)) d' n' f r A (tkV T N (tB T N p) (tE T N p))) ∧ (isD T N (tB T N p) → n' = nI (nv4 T (tB T N p) (tE T N p - tB T N p))) := by
  have hN := h.1
  unfold f_X10_nextToken
  rw [m_nt_0 h fu p 200 hp (Nat.lt_of_le_of_lt (show N - p ≤ 200 by omega) (by decide)) (by omega), tE_F]
  exact m_38 h (tB_b T hp).2
/-- what the token is -/
theorem lwN_b {T : Nat → Nat} {b : Nat} : ∀ k, (∀ j, j < k → srt (T (b + j)) = 0) → lwN T b k < 27 ^ k
  | 0, _ => by show (0 : Nat) < 1; decide
  | k + 1, h => by
    have ih := lwN_b (T := T) (b := b) k (fun j hj => h j (by omega))
    have := srt_0.mp (h k (by omega))
    rw [lwN, Nat.pow_succ]
    omega
def wkN (k : Nat) : Nat → Nat
  | 0 => 0
  | j + 1 => 27 * wkN k j + (wCh k j - 96)
theorem wCh_b : ∀ k, k < 12 → 1 ≤ k → ∀ j, j < wLn k → 97 ≤ wCh k j ∧ wCh k j ≤ 122 := by decide +kernel
theorem lw_wk {T : Nat → Nat} {b k : Nat} (hk : k < 12) (hk1 : 1 ≤ k) : ∀ n m, m ≤ wLn k → (∀ j, j < n → srt (T (b + j)) = 0) → (lwN T b n = wkN k m ↔ n = m ∧ ∀ j, j < n → T (b + j) = wCh k j)
  | 0, 0, _, _ => ⟨fun _ => ⟨rfl, fun j hj => by omega⟩, fun _ => rfl⟩
  | 0, m + 1, hm, _ => by
    have := wCh_b k hk hk1 m (by omega)
    constructor
    · intro z; rw [lwN, wkN] at z; omega
    · intro z; omega
  | n + 1, 0, _, h => by
    have := srt_0.mp (h n (by omega))
    constructor
    · intro z; rw [lwN, wkN] at z; omega
    · intro z; omega
  | n + 1, m + 1, hm, h => by
    have h1 := srt_0.mp (h n (by omega))
    have h2 := wCh_b k hk hk1 m (by omega)
    have ih := lw_wk (T := T) (b := b) hk hk1 n m (by omega) (fun j hj => h j (by omega))
    rw [lwN, wkN]
    constructor
    · intro z
      have z1 : lwN T b n = wkN k m := by omega
      obtain ⟨e, q⟩ := ih.mp z1
      subst e
      refine ⟨rfl, fun j hj => ?_⟩
      by_cases c : j = n
      · subst c; omega
      · exact q j (by omega)
    · rintro ⟨e, q⟩
      have e : n = m := by omega
      subst e
      have z1 := ih.mpr ⟨rfl, fun j hj => q j (by omega)⟩
      rw [z1, q n (by omega)]
theorem alB_iff {P : Nat → Bool} : ∀ {n : Nat}, alB P n = true ↔ ∀ k, k < n → P k = true := by
  intro n
  constructor
  · exact alB_t
  · intro h
    induction n with
    | zero => rfl
    | succ n ih => rw [alB, ih (fun k hk => h k (by omega)), h n (by omega)]; rfl
theorem isW_iff {T : Nat → Nat} {b e k : Nat} : isW T b e k = true ↔ e - b = wLn k ∧ ∀ j, j < wLn k → T (b + j) = wCh k j := by
  unfold isW
  rw [Bool.and_eq_true, decide_eq_true_eq, alB_iff]
  simp only [decide_eq_true_eq]
theorem lN_neg {x : Int64} (hx : x.toInt < 0) {a : Nat} (ha : a < 2 ^ 62) : ¬ x = lN a := fun z => by
  rw [z, pf_lI (by omega)] at hx
  omega
theorem tk_word {T : Nat → Nat} {N p : Nat} (hp : p ≤ N) {k : Nat} (hk : k < 12) (hk1 : 1 ≤ k) : (lg_cmp (tkV T N (tB T N p) (tE T N p)) (lN (wkN k (wLn k))) = 0) ↔ isW T (tB T N p) (tE T N p) k = true := by
  have hb := tB_b T hp
  have he := tE_b T hp
  have hl := wLn_b k hk
  have hwk : wkN k (wLn k) < 27 ^ 6 := (by decide +kernel : ∀ k, k < 12 → wkN k (wLn k) < 27 ^ 6) k hk
  rw [lg_cmp_eq, isW_iff]
  unfold tkV
  by_cases c0 : tB T N p = N
  · rw [if_pos c0]
    constructor
    · intro z; exact absurd z (lN_neg (by decide) (by omega))
    · intro z; omega
  · have hlt : tB T N p < N := by omega
    rw [if_neg c0]
    by_cases s0 : srt (T (tB T N p)) = 0
    · rw [if_pos s0]
      have hall : ∀ j, j < tE T N p - tB T N p → srt (T (tB T N p + j)) = 0 := fun j hj => by
        rw [tE_s T hp (j := tB T N p + j) (by omega) (by omega) (by omega), s0]
      unfold lkW
      by_cases c9 : tE T N p - tB T N p ≤ 9
      · rw [if_pos c9]
        have h9 := lwN_b (T := T) (b := tB T N p) _ hall
        have hpw : 27 ^ (tE T N p - tB T N p) ≤ 27 ^ 9 := Nat.pow_le_pow_right (by decide) c9
        rw [fb_lN_inj (by omega) (by omega), lw_wk hk hk1 _ _ (Nat.le_refl _) hall]
        constructor
        · rintro ⟨a, q⟩; exact ⟨a, fun j hj => q j (by omega)⟩
        · rintro ⟨a, q⟩; exact ⟨a, fun j hj => q j (by omega)⟩
      · rw [if_neg c9]
        constructor
        · intro z; exact absurd z (lN_neg (by decide) (by omega))
        · intro z; omega
    · rw [if_neg s0]
      have hno : ¬ (tE T N p - tB T N p = wLn k ∧ ∀ j, j < wLn k → T (tB T N p + j) = wCh k j) := by
        rintro ⟨_, q⟩
        have := q 0 (by omega)
        rw [Nat.add_zero] at this
        have h2 := wCh_b k hk hk1 0 (by omega)
        exact s0 (srt_0.mpr (by omega))
      constructor
      · intro z
        exfalso
        split at z
        · split at z
          · exact lN_neg (by decide) (by omega) z
          · exact lN_neg (by decide) (by omega) z
        · split at z
          · exact lN_neg (by decide) (by omega) z
          · exact lN_neg (by decide) (by omega) z
      · intro z; exact absurd z hno
theorem lk_nn {T : Nat → Nat} {b e : Nat} {x : Int64} (h : ∀ j, j < e - b → srt (T (b + j)) = 0) (hx : x.toInt < 0) (h4 : ¬ (-4 : Int64) = x) : ¬ lkW T b e = x := by
  unfold lkW
  split
  · rename_i c9
    have h9 := lwN_b (T := T) (b := b) _ h
    have hpw : 27 ^ (e - b) ≤ 27 ^ 9 := Nat.pow_le_pow_right (by decide) c9
    exact fun z => lN_neg hx (by omega) z.symm
  · exact h4
theorem tk_end {T : Nat → Nat} {N p : Nat} (hp : p ≤ N) : (lg_cmp (tkV T N (tB T N p) (tE T N p)) (-2) = 0) ↔ tB T N p = N := by
  rw [lg_cmp_eq]
  unfold tkV
  by_cases c0 : tB T N p = N
  · rw [if_pos c0]; exact ⟨fun _ => c0, fun _ => rfl⟩
  · rw [if_neg c0]
    refine ⟨fun z => ?_, fun z => absurd z c0⟩
    exfalso
    split at z
    · rename_i s0
      exact lk_nn (fun j hj => by rw [tE_s T hp (j := tB T N p + j) (by omega) (by omega) (by omega), s0]) (by decide) (by decide) z
    · split at z
      · split at z <;> exact absurd z (by decide)
      · split at z <;> exact absurd z (by decide)
theorem tk_semi {T : Nat → Nat} {N p : Nat} (hp : p ≤ N) : (lg_cmp (tkV T N (tB T N p) (tE T N p)) (-3) = 0) ↔ isW T (tB T N p) (tE T N p) 0 = true := by
  have he := tE_b T hp
  rw [lg_cmp_eq, isW_iff, show wLn 0 = 1 from rfl]
  have hq : (∀ j, j < 1 → T (tB T N p + j) = wCh 0 j) ↔ T (tB T N p) = 59 := by
    constructor
    · intro q; exact q 0 (by decide)
    · intro q j hj
      have : j = 0 := by omega
      subst this; exact q
  rw [hq]
  unfold tkV
  by_cases c0 : tB T N p = N
  · rw [if_pos c0]
    refine ⟨fun z => absurd z (by decide), fun z => by omega⟩
  · have hlt : tB T N p < N := by have := tB_b T hp; omega
    rw [if_neg c0]
    by_cases s0 : srt (T (tB T N p)) = 0
    · rw [if_pos s0]
      have h0 := srt_0.mp s0
      refine ⟨fun z => absurd z (lk_nn (fun j hj => by rw [tE_s T hp (j := tB T N p + j) (by omega) (by omega) (by omega), s0]) (by decide) (by decide)), fun z => by omega⟩
    · rw [if_neg s0]
      by_cases s1 : srt (T (tB T N p)) = 1
      · rw [if_pos s1]
        have h0 := srt_1 s1
        refine ⟨fun z => ?_, fun z => by omega⟩
        split at z <;> exact absurd z (by decide)
      · rw [if_neg s1]
        by_cases c : T (tB T N p) = 59
        · rw [if_pos c]
          have s2 : srt (T (tB T N p)) = 2 := by have := srt_b (T (tB T N p)); omega
          have : tE T N p = tB T N p + 1 := by rw [tE_F]; unfold tF; rw [if_pos hlt, if_pos s2]
          exact ⟨fun _ => ⟨by omega, c⟩, fun _ => rfl⟩
        · rw [if_neg c]
          exact ⟨fun z => absurd z (by decide), fun z => absurd z.2 c⟩
theorem tk_num {T : Nat → Nat} {N p : Nat} (hp : p ≤ N) : (lg_cmp (tkV T N (tB T N p) (tE T N p)) (-1) = 0) ↔ nmO T (tB T N p) (tE T N p) ≠ none := by
  have he := tE_b T hp
  have hb := tB_b T hp
  rw [lg_cmp_eq]
  unfold tkV nmO
  by_cases c0 : tB T N p = N
  · rw [if_pos c0, if_neg (by omega)]
    exact ⟨fun z => absurd z (by decide), fun z => absurd rfl z⟩
  · have hlt : tB T N p < N := by omega
    rw [if_neg c0]
    by_cases s0 : srt (T (tB T N p)) = 0
    · rw [if_pos s0, if_neg (by omega)]
      exact ⟨fun z => absurd z (lk_nn (fun j hj => by rw [tE_s T hp (j := tB T N p + j) (by omega) (by omega) (by omega), s0]) (by decide) (by decide)), fun z => absurd rfl z⟩
    · rw [if_neg s0]
      by_cases s1 : srt (T (tB T N p)) = 1
      · rw [if_pos s1]
        by_cases c4 : tE T N p - tB T N p ≤ 4
        · rw [if_pos c4, if_pos (show tB T N p < tE T N p ∧ tE T N p - tB T N p ≤ 4 ∧ srt (T (tB T N p)) = 1 from ⟨he.2.2 hlt, c4, s1⟩)]
          exact ⟨fun _ z => (by cases z), fun _ => rfl⟩
        · rw [if_neg c4, if_neg (show ¬ (tB T N p < tE T N p ∧ tE T N p - tB T N p ≤ 4 ∧ srt (T (tB T N p)) = 1) from fun z => c4 z.2.1)]
          exact ⟨fun z => absurd z (by decide), fun z => absurd rfl z⟩
      · rw [if_neg s1, if_neg (show ¬ (tB T N p < tE T N p ∧ tE T N p - tB T N p ≤ 4 ∧ srt (T (tB T N p)) = 1) from fun z => s1 z.2.2)]
        refine ⟨fun z => ?_, fun z => absurd rfl z⟩
        exfalso
        split at z <;> exact absurd z (by decide)
theorem tk_val {T : Nat → Nat} {N p v : Nat} (hp : p ≤ N) (h : nmO T (tB T N p) (tE T N p) = some v) : isD T N (tB T N p) ∧ nv4 T (tB T N p) (tE T N p - tB T N p) = v := by
  have he := tE_b T hp
  unfold nmO at h
  split at h
  · rename_i c
    injection h with h
    refine ⟨⟨by omega, c.2.2⟩, ?_⟩
    unfold nv4
    rw [if_pos c.2.1, h]
  · cases h
