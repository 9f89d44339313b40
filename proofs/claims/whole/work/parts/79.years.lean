/-! years: the reference's -/
theorem mn_le (x y : Int32) : (if x ≤ y then x else y) = jmin x y := by
  unfold jmin
  by_cases h : x ≤ y
  · rw [if_pos h, if_neg (fun z => by rw [fa_lt] at z; rw [fa_le] at h; omega)]
  · rw [if_neg h, if_pos (fa_of_nle h)]
theorem mx_le (x y : Int32) : (if y ≤ x then x else y) = jmax x y := by
  unfold jmax
  by_cases h : y ≤ x
  · rw [if_pos h, if_neg (fun z => by rw [fa_lt] at z; rw [fa_le] at h; omega)]
  · rw [if_neg h, if_pos (fa_of_nle h)]
theorem ylit4 (k j : Nat) : (4 : Int32) * nI k + nI j = nI (4 * k + j) := nl 4 k j
theorem m_begin_167 {w : Wd} {t : Nat} (ht : t < 14) (x y : Int32) (A B : Nat → Int32) : f_X10_beginYears_167 (nI t) x (nI t) y (w2 w 46 47 A B) = some (w2 w 46 47 (upd A t x) (upd B t (jmin (B t) y))) := by
  unfold f_X10_beginYears_167
  simp only [inB_nI ht (show 14 < 2 ^ 31 by decide), ix_nI (show t < 2 ^ 31 by omega), if_true, wS_d]
  rw [w2_a (by decide), wA_n (k := 46) (a := 47) _ _ (by decide), w2_b, ← mn_le]
  by_cases h : B t ≤ y
  · rw [if_pos h, if_pos h, w2_w (by decide)]
  · rw [if_neg h, if_neg h, w2_w (by decide)]
theorem m_begin_50 {w : Wd} (e43 : w.1 43 = w.1 11) {t : Nat} (ht : t < 14) (s : Int32) (A B : Nat → Int32) : ∀ (n k : Nat), k ≤ 12 → 12 - k < n → f_X10_beginYears_50 n (nI t) s (fF w s k) (fL w s k) (nI (k + 1)) (w2 w 46 47 A B) = some (if s = 0 then w2 w 46 47 A B else w2 w 46 47 (upd A t (jmax (A t) (fF w s 12))) (upd B t (jmin (B t) (fL w s 12)))) := by
  intro n
  induction n with
  | zero => intro k _ h; omega
  | succ n ih =>
    intro k hk hn
    rw [f_X10_beginYears_50]
    by_cases h : k = 12
    · subst h
      rw [if_pos (by decide)]
      by_cases hs : s = 0
      · rw [if_pos hs, if_pos hs]
      · rw [if_neg hs, if_neg hs]
        simp only [inB_nI ht (show 14 < 2 ^ 31 by decide), ix_nI (show t < 2 ^ 31 by omega), if_true]
        rw [w2_a (by decide), ← mx_le]
        by_cases hc : fF w s 12 ≤ A t
        · rw [if_pos hc, if_pos hc, m_begin_167 ht]
        · rw [if_neg hc, if_neg hc, m_begin_167 ht]
    · have i1 := ih (k + 1) (by omega) (by omega)
      rw [if_neg (n13 (by omega)), bit1 _ (by omega)]
      rw [fF, fL] at i1
      cases hb : bt s (k + 1) with
      | false =>
        rw [if_neg (by decide), p1]
        rw [hb, if_neg (by decide), if_neg (by decide)] at i1
        exact i1
      | true =>
        rw [if_pos (show b2i true = 1 from rfl)]
        rw [hb, if_pos rfl, if_pos rfl, ← mn_le, ← mx_le] at i1
        have l2 : (4 : Int32) * nI (k + 1) + 2 = nI (4 * (k + 1) + 2) := ylit4 (k + 1) 2
        have l3 : (4 : Int32) * nI (k + 1) + 3 = nI (4 * (k + 1) + 3) := ylit4 (k + 1) 3
        unfold f_X10_beginYears_97
        simp only [l2, l3, inB_nI (show 4 * (k + 1) + 2 < 52 by omega) (show 52 < 2 ^ 31 by decide), inB_nI (show 4 * (k + 1) + 3 < 52 by omega) (show 52 < 2 ^ 31 by decide), ix_nI (show 4 * (k + 1) + 2 < 2 ^ 31 by omega), ix_nI (show 4 * (k + 1) + 3 < 2 ^ 31 by omega), if_true, w2_n (w := w) (a := 46) (b := 47) (c := 43) (by decide) (by decide), e43, p1]
        by_cases c1 : fF w s k ≤ w.1 11 (4 * (k + 1) + 2) <;> by_cases c2 : w.1 11 (4 * (k + 1) + 3) ≤ fL w s k
        · rw [if_pos c1, if_pos c2] at i1 ⊢; exact i1
        · rw [if_pos c1, if_neg c2] at i1 ⊢; exact i1
        · rw [if_neg c1, if_pos c2] at i1 ⊢; exact i1
        · rw [if_neg c1, if_neg c2] at i1 ⊢; exact i1
theorem m_begin {w : Wd} (h : Rel w) {t : Nat} (ht : t < 14) (hb : bt (w.1 5 0) t = true) (A B : Nat → Int32) : f_X10_beginYears (nI t) (w2 w 46 47 A B) = some (w2 w 46 47 (upd A t (yF w t)) (upd B t (yG w t))) := by
  have T : ∀ s, ftS w t = s → f_X10_beginYears_39 s (nI t) (w2 w 46 47 (upd A t (w.1 8 t)) (upd B t (w.1 9 t))) = some (w2 w 46 47 (upd A t (yF w t)) (upd B t (yG w t))) := by
    intro s hs
    unfold f_X10_beginYears_39
    have := m_begin_50 h.e.2.2.2.2.2.2.2.2.2.2.2.1 ht s (upd A t (w.1 8 t)) (upd B t (w.1 9 t)) fu 0 (by decide) (by decide)
    refine Eq.trans this ?_
    unfold yF yG
    rw [hs]
    by_cases h0 : s = 0
    · rw [if_pos h0, if_pos h0, if_pos h0]
    · rw [if_neg h0, if_neg h0, if_neg h0, fa_upd_twice, fa_upd_twice]
      rw [show upd A t (w.1 8 t) t = w.1 8 t from if_pos rfl, show upd B t (w.1 9 t) t = w.1 9 t from if_pos rfl]
  unfold f_X10_beginYears
  simp only [inB_nI ht (show 14 < 2 ^ 31 by decide), ix_nI (show t < 2 ^ 31 by omega), if_true, wS_d]
  have e39 : w.1 39 = w.1 8 := h.e.2.2.2.2.2.2.2.2.1
  have e40 : w.1 40 = w.1 9 := h.e.2.2.2.2.2.2.2.2.2.1
  rw [w2_a (by decide), wA_n (k := 46) (a := 47) _ _ (by decide), wA_n (k := 46) (a := 40) _ _ (by decide), w2_b, w2_n (by decide) (by decide), w2_n (by decide) (by decide), w2_w (by decide), e39, e40]
  by_cases h8 : t < 8
  · rw [if_neg (n8 h8)]
    have sm : sim w (w2 w 46 47 (upd A t (w.1 8 t)) (upd B t (w.1 9 t))) := sim_w2 (fun _ => rfl) (fun _ => rfl) _ _
    rw [(h.sim sm).m_teams h8, Option.bind_some]
    refine T _ ?_
    unfold ftS; rw [if_pos ⟨h8, hb⟩]; rfl
  · rw [if_pos (show (8 : Int32) ≤ nI t from nI_le (a := 8) (by omega) (by omega))]
    exact T 0 (by unfold ftS; rw [if_neg (fun z => h8 z.1)])
def pTo (w : Wd) (j : Nat) : Bool := decide (j < 14) && bt (w.1 5 0) j
theorem pTo_t {w : Wd} {j : Nat} (h : j < 14) (hb : bt (w.1 5 0) j = true) : pTo w j = true := by unfold pTo; rw [decide_eq_true h, hb]; rfl
/-- the reference's rows behind k turns and n steps -/
def zS (w : Wd) (k n : Nat) : Wd := w2 w 46 47 (rwL (pTo w) (yLn w k n) (w.1 46)) (rwH (pTo w) (yMn w k n) (w.1 47))
theorem zS_k (w : Wd) (k : Nat) : zS w k 196 = zS w (k + 1) 0 := by unfold zS; rw [yLn_k, yMn_k]
theorem zS_f {w : Wd} {k t u : Nat} (hu : u < 14) (h : bt (ruX w t) u = false) : zS w k (14 * t + u + 1) = zS w k (14 * t + u) := by
  unfold zS
  rw [yLn_s, yMn_s, pT_e hu, pU_e hu, stI_f (q := qX w) h, stI_f (q := qY w) h]
theorem m_isPair {w : Wd} (h1 : w.1 33 0 = w.1 5 0) (h2 : w.1 41 = w.1 10) {t u : Nat} (ht : t < 14) (hu : u < 14) : f_X10_isPair (nI t) (nI u) w = some (b2i (bt (ruX w t) u), w) := by
  unfold f_X10_isPair
  rw [m_isThing, Option.bind_some, h1, bt_ru, show isT 13 (w.1 5 0) (nI t) = bt (w.1 5 0) t from nI_isT (n := 13) (by omega) (by decide)]
  dsimp only
  cases bt (w.1 5 0) t with
  | false => rw [if_pos bz]; rfl
  | true =>
    rw [if_neg bnz, m_isThing, Option.bind_some, h1, show isT 13 (w.1 5 0) (nI u) = bt (w.1 5 0) u from nI_isT (n := 13) (by omega) (by decide)]
    dsimp only
    cases bt (w.1 5 0) u with
    | false => rw [if_pos bz, Bool.and_false]; rfl
    | true =>
      rw [if_neg bnz, inB_nI ht (by decide), if_pos rfl, ix_nI (by omega), h2, bit1 _ (by omega)]
      cases bt (w.1 10 t) u <;> rfl
theorem ru_told {w : Wd} {t u : Nat} (h : bt (ruX w t) u = true) : bt (w.1 5 0) t = true ∧ bt (w.1 5 0) u = true := by
  rw [bt_ru, Bool.and_eq_true, Bool.and_eq_true] at h
  exact ⟨h.1, h.2.2⟩
theorem m_are_45 {w : Wd} (h : Rel w) {k t : Nat} (hk : k ≤ 15) (ht : t < 14) (k29 : Int32 → Wd → Option (Int32 × Wd)) (k37 : Int32 → Int32 → Wd → Option (Int32 × Wd)) : ∀ (n u : Nat), u ≤ 14 → 14 - u < n → f_X10_areYears_45 k29 k37 n (nI k) (nI t) (nI u) (zS w k (14 * t + u)) = k37 (nI k) (nI (t + 1)) (zS w k (14 * t + 14)) := by
  intro n
  induction n with
  | zero => intro u _ h; omega
  | succ n ih =>
    intro u hu hn
    rw [f_X10_areYears_45]
    by_cases hu14 : u = 14
    · subst hu14
      rw [if_pos (by decide), p1]
    · have hu' : u < 14 := by omega
      have i1 := ih (u + 1) (by omega) (by omega)
      rw [← Nat.add_assoc] at i1
      have sm : sim w (zS w k (14 * t + u)) := sim_w2 (fun _ => rfl) (fun _ => rfl) _ _
      have hz := h.sim sm
      rw [if_neg (n14 hu'), m_isPair hz.told hz.e.2.2.2.2.2.2.2.2.2.2.1 ht hu', Option.bind_some]
      dsimp only
      rw [show ruX (zS w k (14 * t + u)) t = ruX w t from ruX_w (w2_n (by decide) (by decide) _ _) (w2_n (by decide) (by decide) _ _) t, p1]
      cases hb : bt (ruX w t) u with
      | false =>
        rw [if_pos bz]
        rw [zS_f hu' hb] at i1
        exact i1
      | true =>
        obtain ⟨tt, tu⟩ := ru_told hb
        have e1 : zS w k (14 * t + u + 1) = w2 w 46 47 (upd (rwL (pTo w) (yLn w k (14 * t + u)) (w.1 46)) t (if tI (yLn w k (14 * t + u) t) ≤ tI (yLn w k (14 * t + u) u) then tI (yLn w k (14 * t + u) u) + 1 else tI (yLn w k (14 * t + u) t))) (upd (rwH (pTo w) (yMn w k (14 * t + u)) (w.1 47)) u (if tI (-(yMn w k (14 * t + u) t)) ≤ tI (-(yMn w k (14 * t + u) u)) then tI (-(yMn w k (14 * t + u) t)) - 1 else tI (-(yMn w k (14 * t + u) u)))) := by
          have b1 := yLn_b h hk (show 14 * t + u ≤ 196 by omega) t
          have b2 := yLn_b h hk (show 14 * t + u ≤ 196 by omega) u
          have b3 := yMn_b h hk (show 14 * t + u ≤ 196 by omega) t
          have b4 := yMn_b h hk (show 14 * t + u ≤ 196 by omega) u
          have x1 : (if tI (yLn w k (14 * t + u) t) ≤ tI (yLn w k (14 * t + u) u) then tI (yLn w k (14 * t + u) u) + 1 else tI (yLn w k (14 * t + u) t)) = tI (mxI (yLn w k (14 * t + u) t) (yLn w k (14 * t + u) u + 1)) := by
            simp only [tI_le (x := yLn w k (14 * t + u) t) (y := yLn w k (14 * t + u) u) (by unfold smI; omega) (by unfold smI; omega)]
            unfold mxI
            by_cases c : yLn w k (14 * t + u) t ≤ yLn w k (14 * t + u) u
            · rw [if_pos c, if_pos (by omega), tI_1]
            · rw [if_neg c, if_neg (by omega)]
          have x2 : (if tI (-(yMn w k (14 * t + u) t)) ≤ tI (-(yMn w k (14 * t + u) u)) then tI (-(yMn w k (14 * t + u) t)) - 1 else tI (-(yMn w k (14 * t + u) u))) = tI (-(mxI (yMn w k (14 * t + u) u) (yMn w k (14 * t + u) t + 1))) := by
            simp only [tI_le (x := -(yMn w k (14 * t + u) t)) (y := -(yMn w k (14 * t + u) u)) (by unfold smI; omega) (by unfold smI; omega)]
            unfold mxI
            by_cases c : -(yMn w k (14 * t + u) t) ≤ -(yMn w k (14 * t + u) u)
            · rw [if_pos c, if_pos (by omega), tI_m1]; congr 1; omega
            · rw [if_neg c, if_neg (by omega)]
          rw [x1, x2, rwL_up (pTo_t ht tt), rwH_up (pTo_t hu' tu)]
          unfold zS
          rw [yLn_s, yMn_s, pT_e hu', pU_e hu', stI_t (q := qX w) hb, stI_t (q := qY w) hb]
        rw [e1] at i1
        rw [if_neg bnz]
        unfold f_X10_areYears_97
        simp only [inB_nI ht (show 14 < 2 ^ 31 by decide), inB_nI hu' (show 14 < 2 ^ 31 by decide), ix_nI (show t < 2 ^ 31 by omega), ix_nI (show u < 2 ^ 31 by omega), if_true, wS_d, p1, wA_n (k := 46) (a := 47) _ _ (show 47 ≠ 46 by decide)]
        rw [show (zS w k (14 * t + u)).1 46 = rwL (pTo w) (yLn w k (14 * t + u)) (w.1 46) from w2_a (by decide) _ _, show (zS w k (14 * t + u)).1 47 = rwH (pTo w) (yMn w k (14 * t + u)) (w.1 47) from w2_b _ _]
        simp only [rwL_at (pTo_t ht tt), rwL_at (pTo_t hu' tu), rwH_at (pTo_t ht tt), rwH_at (pTo_t hu' tu)]
        unfold zS
        simp only [w2_w (w := w) (a := 46) (b := 47) (by decide)]
        by_cases c1 : tI (yLn w k (14 * t + u) t) ≤ tI (yLn w k (14 * t + u) u) <;> by_cases c2 : tI (-(yMn w k (14 * t + u) t)) ≤ tI (-(yMn w k (14 * t + u) u))
        · rw [if_pos c1, if_pos c2] at i1 ⊢; exact i1
        · rw [if_pos c1, if_neg c2] at i1 ⊢; exact i1
        · rw [if_neg c1, if_pos c2] at i1 ⊢; exact i1
        · rw [if_neg c1, if_neg c2] at i1 ⊢; exact i1
theorem m_are_37 {w : Wd} (h : Rel w) {k : Nat} (hk : k ≤ 15) (k29 : Int32 → Wd → Option (Int32 × Wd)) : ∀ (n t : Nat), t ≤ 14 → 14 - t < n → f_X10_areYears_37 k29 n (nI k) (nI t) (zS w k (14 * t)) = k29 (nI (k + 1)) (zS w (k + 1) 0) := by
  intro n
  induction n with
  | zero => intro u _ h; omega
  | succ n ih =>
    intro t ht hn
    rw [f_X10_areYears_37]
    by_cases ht14 : t = 14
    · subst ht14
      rw [if_pos (by decide), p1]
      show k29 _ (zS w k 196) = _
      rw [zS_k]
    · rw [if_neg (n14 (by omega))]
      have := m_are_45 h hk (show t < 14 by omega) k29 (f_X10_areYears_37 k29 n) fu 0 (by decide) (by decide)
      rw [Nat.add_zero] at this
      exact this.trans (ih (t + 1) (by omega) (by omega))
theorem m_are_169f {v : Wd} : ∀ (n i : Nat), i ≤ 14 → 14 - i < n → f_X10_areYears_169 n 0 (nI i) v = some (0, v) := by
  intro n
  induction n with
  | zero => intro u _ h; omega
  | succ n ih =>
    intro i hi hn
    rw [f_X10_areYears_169]
    by_cases h : i = 14
    · subst h; rw [if_pos (by decide)]; rfl
    · rw [if_neg (n14 (by omega)), if_pos rfl, p1]
      exact ih (i + 1) (by omega) (by omega)
theorem m_are_169 {v : Wd} : ∀ (n i : Nat), i ≤ 14 → 14 - i < n → f_X10_areYears_169 n (b2i (alB (yP v 46 47 (v.1 33 0)) i)) (nI i) v = some (b2i (alB (yP v 46 47 (v.1 33 0)) 14), v) := by
  intro n
  induction n with
  | zero => intro u _ h; omega
  | succ n ih =>
    intro i hi hn
    rw [f_X10_areYears_169]
    by_cases h : i = 14
    · subst h; rw [if_pos (by decide), b2i_bo, if_pos rfl]
    · have i1 := ih (i + 1) (by omega) (by omega)
      rw [if_neg (n14 (by omega)), p1]
      rw [alB] at i1
      cases ha : alB (yP v 46 47 (v.1 33 0)) i with
      | false =>
        rw [if_pos bz]
        rw [ha, Bool.false_and] at i1
        exact i1
      | true =>
        rw [ha, Bool.true_and] at i1
        unfold yP at i1
        rw [if_neg bnz, m_isThing, Option.bind_some]
        dsimp only
        rw [show isT 13 (v.1 33 0) (nI i) = bt (v.1 33 0) i from nI_isT (n := 13) (by omega) (by decide)]
        unfold f_X10_areYears_202
        rw [p1]
        cases hb : bt (v.1 33 0) i with
        | false =>
          rw [if_pos bz]
          rw [hb] at i1
          exact i1
        | true =>
          rw [if_neg bnz, inB_nI (by omega) (by decide), if_pos rfl, if_pos rfl, ix_nI (by omega)]
          rw [hb] at i1
          by_cases hlt : v.1 47 i < v.1 46 i
          · rw [if_pos hlt]
            rw [decide_eq_false (fun z => by rw [fa_lt] at hlt; rw [fa_le] at z; omega)] at i1
            exact i1
          · rw [if_neg hlt]
            rw [decide_eq_true (fa_of_nlt hlt)] at i1
            exact i1
theorem zS_00 (w : Wd) : w2 w 46 47 (fun j => if j < 14 ∧ bt (w.1 5 0) j = true then yF w j else w.1 46 j) (fun j => if j < 14 ∧ bt (w.1 5 0) j = true then yG w j else w.1 47 j) = zS w 0 0 := by
  unfold zS
  congr 1
  · funext j
    unfold rwL pTo
    by_cases h : j < 14 ∧ bt (w.1 5 0) j = true
    · rw [if_pos h, decide_eq_true h.1, h.2, if_pos (show (true && true) = true from rfl)]
      show _ = tI (L0 w j)
      unfold L0; rw [if_pos h.1, tI_of]
    · rw [if_neg h, if_neg (fun z => h (by rw [Bool.and_eq_true, decide_eq_true_eq] at z; exact z))]
  · funext j
    unfold rwH pTo
    by_cases h : j < 14 ∧ bt (w.1 5 0) j = true
    · rw [if_pos h, decide_eq_true h.1, h.2, if_pos (show (true && true) = true from rfl)]
      show _ = tI (-(M0 w j))
      unfold M0; rw [if_pos h.1, Int.neg_neg, tI_of]
    · rw [if_neg h, if_neg (fun z => h (by rw [Bool.and_eq_true, decide_eq_true_eq] at z; exact z))]
theorem zL_15 {w : Wd} (h : Rel w) (hg : rgX w = 0) : yLn w 15 0 = yLn w 14 0 := by unfold yLn; rw [psI_0, psI_0]; exact paI_15 (rkD_lt h hg) pTU pTUc (rkD_14 hg) (L0 w)
theorem zM_15 {w : Wd} (h : Rel w) (hg : rgX w = 0) : yMn w 15 0 = yMn w 14 0 := by unfold yMn; rw [psI_0, psI_0]; exact paI_15 (rkU_lt h hg) pUT pUTc (rkU_14 hg) (M0 w)
/-- what the settled years are, in the reference's rows -/
def yRow (w v : Wd) : Prop := ∀ t, t < 14 → bt (w.1 5 0) t = true → v.1 46 t = tI (yL w t) ∧ v.1 47 t = tI (yH w t)
theorem m_are_29 {w : Wd} (h : Rel w) : ∀ (n k : Nat), k ≤ 15 → 15 - k < n → ∃ v, f_X10_areYears_29 n (nI k) (zS w k 0) = some (b2i (yOK w), v) ∧ sim w v ∧ (yOK w = true → yRow w v) := by
  intro n
  induction n with
  | zero => intro u _ h; omega
  | succ n ih =>
    intro k hk hn
    rw [f_X10_areYears_29]
    by_cases hk15 : k = 15
    · subst hk15
      have sm : sim w (zS w 15 0) := sim_w2 (fun _ => rfl) (fun _ => rfl) _ _
      have hz := h.sim sm
      have s2 : sim w (wA (zS w 15 0) 42 (rcR (zS w 15 0))) := sm.tr (sim42 _)
      rw [if_pos (by decide), m_ringOf hz, Option.bind_some, rgX_sim sm]
      dsimp only
      by_cases hg : rgX w = 0
      · rw [if_pos hg]
        have hrow : yRow w (wA (zS w 15 0) 42 (rcR (zS w 15 0))) := by
          intro t ht hb
          rw [wA_n _ _ (by decide), wA_n _ _ (by decide), show (zS w 15 0).1 46 = _ from w2_a (by decide) _ _, show (zS w 15 0).1 47 = _ from w2_b _ _, rwL_at (pTo_t ht hb), rwH_at (pTo_t ht hb), zL_15 h hg, zM_15 h hg]
          exact ⟨rfl, rfl⟩
        have := m_are_169 (v := wA (zS w 15 0) 42 (rcR (zS w 15 0))) fu 0 (by decide) (by decide)
        refine ⟨_, ?_, s2, fun _ => hrow⟩
        refine Eq.trans this ?_
        congr 3
        unfold yOK
        rw [decide_eq_true hg, Bool.true_and]
        refine alB_cong (fun t ht => ?_)
        unfold yP
        rw [(h.sim s2).told, s2 5 0 rfl]
        cases hb : bt (w.1 5 0) t with
        | false => rfl
        | true =>
          obtain ⟨e1, e2⟩ := hrow t ht hb
          have b1 := yL_b h t
          have b2 := yH_b h t
          rw [e1, e2]
          congr 1
          rw [decide_eq_decide]
          rw [tI_le (by unfold smI; omega) (by unfold smI; omega)]
      · rw [if_neg hg]
        have : yOK w = false := by unfold yOK; rw [decide_eq_false hg, Bool.false_and]
        rw [this]
        exact ⟨_, m_are_169f fu 0 (by decide) (by decide), s2, fun z => by cases z⟩
    · rw [if_neg (n15 (by omega))]
      have := m_are_37 h hk (f_X10_areYears_29 n) fu 0 (by decide) (by decide)
      obtain ⟨v, e, r⟩ := ih (k + 1) (by omega) (by omega)
      exact ⟨v, this.trans e, r⟩
theorem m_are_2 {w : Wd} (h : Rel w) : ∀ (n i : Nat), i ≤ 14 → 14 - i < n → ∃ v, f_X10_areYears_2 n (nI i) (w2 w 46 47 (fun j => if j < i ∧ bt (w.1 5 0) j = true then yF w j else w.1 46 j) (fun j => if j < i ∧ bt (w.1 5 0) j = true then yG w j else w.1 47 j)) = some (b2i (yOK w), v) ∧ sim w v ∧ (yOK w = true → yRow w v) := by
  intro n
  induction n with
  | zero => intro u _ h; omega
  | succ n ih =>
    intro i hi hn
    rw [f_X10_areYears_2]
    by_cases h14 : i = 14
    · subst h14
      rw [if_pos (by decide), zS_00]
      exact m_are_29 h fu 0 (by decide) (by decide)
    · have i1 := ih (i + 1) (by omega) (by omega)
      rw [if_neg (n14 (by omega)), m_isThing, Option.bind_some, w2_n (by decide) (by decide), h.told]
      dsimp only
      rw [show isT 13 (w.1 5 0) (nI i) = bt (w.1 5 0) i from nI_isT (n := 13) (by omega) (by decide), p1]
      have key : ∀ (F f : Nat → Int32), (fun j => if j < i + 1 ∧ bt (w.1 5 0) j = true then F j else f j) = if bt (w.1 5 0) i = true then upd (fun j => if j < i ∧ bt (w.1 5 0) j = true then F j else f j) i (F i) else (fun j => if j < i ∧ bt (w.1 5 0) j = true then F j else f j) := by
        intro F f
        by_cases hb : bt (w.1 5 0) i = true
        · rw [if_pos hb]
          funext j
          unfold upd
          by_cases e : j = i
          · subst e; rw [if_pos rfl, if_pos ⟨by omega, hb⟩]
          · rw [if_neg e]
            dsimp only
            by_cases c : j < i ∧ bt (w.1 5 0) j = true
            · rw [if_pos c, if_pos ⟨by omega, c.2⟩]
            · rw [if_neg c, if_neg (fun z => c ⟨by omega, z.2⟩)]
        · rw [if_neg hb]
          funext j
          by_cases c : j < i ∧ bt (w.1 5 0) j = true
          · rw [if_pos c, if_pos ⟨by omega, c.2⟩]
          · rw [if_neg c, if_neg (fun z => c ⟨by
              rcases Nat.lt_or_ge j i with q | q
              · exact q
              · have : j = i := by omega
                subst this; exact absurd z.2 hb, z.2⟩)]
      rw [key, key] at i1
      cases hb : bt (w.1 5 0) i with
      | false =>
        rw [if_pos bz]
        rw [hb, if_neg (by decide), if_neg (by decide)] at i1
        exact i1
      | true =>
        rw [if_neg bnz, m_begin h (by omega) hb, Option.bind_some]
        rw [hb, if_pos rfl, if_pos rfl] at i1
        exact i1
theorem m_areYears {w : Wd} (h : Rel w) : ∃ v, f_X10_areYears w = some (b2i (yOK w), v) ∧ sim w v ∧ (yOK w = true → yRow w v) := by
  have := m_are_2 h fu 0 (by decide) (by decide)
  unfold f_X10_areYears
  have e : ∀ (F f : Nat → Int32), (fun j => if j < 0 ∧ bt (w.1 5 0) j = true then F j else f j) = f := by intro F f; funext j; rw [if_neg (by omega)]
  rw [e, e, w2_self _ (by decide)] at this
  exact this
theorem op_span (p0 q0 : Int32) {w : Wd} (h : Rel w) : Agree (f_X9_span p0 q0) (f_X10_span p0 q0) w := by
  cases h1 : isT 13 (w.1 5 0) p0 with
  | false =>
    refine ⟨-2, w, w, ?_, ?_, h⟩
    · unfold f_X9_span; rw [e_isThing, Option.bind_some, h1]; rfl
    · unfold f_X10_span; rw [m_isThing, Option.bind_some, h.told, h1]; rfl
  | true =>
    cases h2 : wi q0 0 1 with
    | false =>
      refine ⟨-3, w, w, ?_, ?_, h⟩
      · unfold f_X9_span; rw [e_isThing, Option.bind_some, h1, e_within, if_neg bnz, Option.bind_some]; dsimp only; rw [h2]; rfl
      · unfold f_X10_span; rw [m_isThing, Option.bind_some, h.told, h1, e_in, if_neg bnz, Option.bind_some]; dsimp only; rw [h2]; rfl
    | true =>
      obtain ⟨t, ht, rfl, hb⟩ := isT_nI (n := 13) (by decide) h1
      obtain ⟨v, e1, s1, r1⟩ := e_settle h
      refine Agree.ask (a := if yOK w = true then (if q0 = 0 then tI (yL w t) else tI (yH w t)) else -1) h ⟨v, ?_, s1⟩ (fun u hu s => ?_)
      · unfold f_X9_span
        rw [e_isThing, Option.bind_some, h1, e_within, if_neg bnz, Option.bind_some]
        dsimp only
        rw [h2, if_neg bnz, e1, Option.bind_some]
        dsimp only
        cases hy : yOK w with
        | false => rw [if_pos bz, if_neg (by decide)]
        | true =>
          obtain ⟨a1, a2⟩ := r1 hy t (by omega)
          rw [if_neg bnz, if_pos rfl, e_earliest (by omega), e_latest (by omega), Option.bind_some, Option.bind_some, a1, a2]
          split <;> rfl
      · obtain ⟨x, e2, s2, r2⟩ := m_areYears hu
        refine ⟨x, ?_, s2⟩
        unfold f_X10_span
        rw [m_isThing, Option.bind_some, hu.told, s 5 0 rfl, h1, e_in, if_neg bnz, Option.bind_some]
        dsimp only
        rw [h2, if_neg bnz, e2, Option.bind_some, yOK_sim s]
        dsimp only
        cases hy : yOK w with
        | false => rw [if_pos bz, if_neg (by decide)]
        | true =>
          obtain ⟨a1, a2⟩ := r2 (by rw [yOK_sim s]; exact hy) t (by omega) (by rw [s 5 0 rfl]; exact hb)
          rw [if_neg bnz, if_pos rfl, inB_nI (by omega) (by decide), if_pos rfl, if_pos rfl, ix_nI (by omega), a1, a2, yL_sim s, yH_sim s]
          split <;> rfl
