/-! terrier -/
theorem jshl_b (b : Bool) {t : Nat} (ht : t < 5) : jshl (b2i b) (nI t) = if b then jshl 1 (nI t) else 0 := by
  rcases (show t = 0 ∨ t = 1 ∨ t = 2 ∨ t = 3 ∨ t = 4 by omega) with rfl | rfl | rfl | rfl | rfl <;> cases b <;> decide
/-- what lies beside terrier j behind the telling of t -/
def tbC (f : Nat → Int32) (o : Int32) (t j : Nat) : Int32 := (f j &&& (jshl 1 (nI t) ^^^ (-1))) ||| (if bt o j then jshl 1 (nI t) else 0)
def tbR (f : Nat → Int32) (o : Int32) (t i : Nat) : Nat → Int32 := fun j => if j < i then tbC f o t j else f j
theorem tbR_s (f : Nat → Int32) (o : Int32) (t i : Nat) : upd (tbR f o t i) i (tbC f o t i) = tbR f o t (i + 1) := by
  funext j
  unfold upd tbR
  by_cases h : j = i
  · subst h; rw [if_pos rfl, if_pos (by omega)]
  · rw [if_neg h]
    by_cases h2 : j < i
    · rw [if_pos h2, if_pos (by omega)]
    · rw [if_neg h2, if_neg (by omega)]
theorem e_tell_33 {w : Wd} {o : Int32} {t : Nat} (ht : t < 5) (f : Nat → Int32) : ∀ (n i : Nat), i ≤ 5 → 5 - i < n → f_X5_tell_33 n (nI t) (jshl 1 (nI t)) o (nI i) (wA w 22 (tbR f o t i)) = some (wA w 22 (upd (tbR f o t 5) t o)) := by
  intro n
  induction n with
  | zero => intro i _ h; omega
  | succ n ih =>
    intro i hi hn
    rw [f_X5_tell_33]
    by_cases h : i = 5
    · subst h
      rw [if_pos (by decide), e_put (k := 22) (by decide) lay_22, Option.bind_some, ptv_in ht (by decide), wA_s, wA_wA]
    · have i1 := ih (i + 1) (by omega) (by omega)
      have ev : tbR f o t i i = f i := by unfold tbR; rw [if_neg (by omega)]
      rw [if_neg (n5 (by omega)), e_at (k := 22) (by decide) lay_22, Option.bind_some, atv_in (by omega) (by decide), wA_s, ev, e_has o (by omega), Option.bind_some]
      unfold f_X5_tell_81
      simp only [e_put (k := 22) (by decide) lay_22, Option.bind_some, ptv_in (show i < 5 by omega) (show 5 < 2 ^ 31 by decide), wA_s, wA_wA, b2i_0]
      have hs := tbR_s f o t i
      rw [p1]
      cases hb : bt o i with
      | false =>
        rw [if_pos rfl]
        unfold tbC at hs
        rw [hb] at hs
        rw [show ((f i &&& (jshl 1 (nI t) ^^^ (-1))) ||| (if false = true then jshl 1 (nI t) else 0)) = (f i &&& (jshl 1 (nI t) ^^^ (-1))) from or_0 _] at hs
        rw [hs]
        exact i1
      | true =>
        rw [if_neg (by decide)]
        unfold tbC at hs
        rw [hb] at hs
        rw [show ((f i &&& (jshl 1 (nI t) ^^^ (-1))) ||| (if true = true then jshl 1 (nI t) else 0)) = ((f i &&& (jshl 1 (nI t) ^^^ (-1))) ||| jshl 1 (nI t)) from rfl] at hs
        rw [hs]
        exact i1
/-- the same, with t's own told first -/
def tbM (f : Nat → Int32) (o : Int32) (t i : Nat) : Nat → Int32 := fun j => if j = t then o else tbR f o t i j
theorem tbM_0 (f : Nat → Int32) (o : Int32) (t : Nat) : tbM f o t 0 = upd f t o := by
  funext j
  unfold tbM upd tbR
  rw [if_neg (show ¬ j < 0 by omega)]
theorem tbM_5 (f : Nat → Int32) (o : Int32) (t i : Nat) : tbM f o t i = upd (tbR f o t i) t o := by
  funext j
  rfl
theorem tbM_t (f : Nat → Int32) (o : Int32) (t : Nat) : upd (tbM f o t t) t o = tbM f o t (t + 1) := by
  funext j
  unfold upd tbM tbR
  by_cases h : j = t
  · rw [if_pos h, if_pos h]
  · rw [if_neg h, if_neg h, if_neg h]
    by_cases h2 : j < t
    · rw [if_pos h2, if_pos (by omega)]
    · rw [if_neg h2, if_neg (by omega)]
theorem tbM_s (f : Nat → Int32) (o : Int32) {t i : Nat} (hi : i ≠ t) : upd (tbM f o t i) i (tbC f o t i) = tbM f o t (i + 1) := by
  funext j
  unfold upd tbM tbR
  by_cases h : j = i
  · subst h
    rw [if_pos rfl, if_neg hi, if_pos (by omega)]
  · rw [if_neg h]
    by_cases h2 : j = t
    · rw [if_pos h2, if_pos h2]
    · rw [if_neg h2, if_neg h2]
      by_cases h3 : j < i
      · rw [if_pos h3, if_pos (by omega)]
      · rw [if_neg h3, if_neg (by omega)]
theorem m_terrier_66 {w : Wd} {o : Int32} {t : Nat} (ht : t < 5) (f : Nat → Int32) : ∀ (n i : Nat), i ≤ 5 → 5 - i < n → f_X10_terrier_66 n (nI t) (nI i) (wA w 50 (tbM f o t i)) = some (1, wA w 50 (tbM f o t 5)) := by
  intro n
  induction n with
  | zero => intro i _ h; omega
  | succ n ih =>
    intro i hi hn
    rw [f_X10_terrier_66]
    by_cases h : i = 5
    · subst h
      rw [if_pos (by decide)]
    · have i1 := ih (i + 1) (by omega) (by omega)
      have et : tbM f o t i t = o := by unfold tbM; rw [if_pos rfl]
      simp only [if_neg (n5 (show i < 5 by omega)), inB_nI (show i < 5 by omega) (show 5 < 2 ^ 31 by decide), inB_nI ht (show 5 < 2 ^ 31 by decide), ix_nI (show i < 2 ^ 31 by omega), ix_nI (show t < 2 ^ 31 by omega), if_true, wA_s, wA_wA, p1, et, bit1 o (show i < 32 by omega), jshl_b _ ht]
      by_cases h2 : i = t
      · subst h2
        rw [if_pos rfl, et, tbM_t]
        exact i1
      · have hne : ¬ nI i = nI t := fun e => h2 ((nI_eq (by omega) (by omega)).mp e)
        have ev : tbM f o t i i = f i := by unfold tbM tbR; rw [if_neg h2, if_neg (by omega)]
        rw [if_neg hne, ev]
        have hs := tbM_s f o h2
        unfold tbC at hs
        rw [hs]
        exact i1
theorem e_tell (p2 : Int32) {t m : Nat} (ht : t < 5) {o : Int32} (ho : o = if nI m = 0 then 0 else p2 &&& (jshl 1 (nI t) ^^^ (-1))) (w : Wd) : f_X5_tell (nI t) (nI m) p2 w = some (wA (wA w 21 (upd (w.1 21) t (nI m))) 22 (tbM (w.1 22) o t 5)) := by
  have key : f_X5_tell_19 o (nI t) (nI m) (jshl 1 (nI t)) w = some (wA (wA w 21 (upd (w.1 21) t (nI m))) 22 (tbM (w.1 22) o t 5)) := by
    unfold f_X5_tell_19
    rw [e_put (k := 21) (by decide) lay_21, Option.bind_some, ptv_in ht (by decide)]
    have := e_tell_33 (w := wA w 21 (upd (w.1 21) t (nI m))) (o := o) ht (w.1 22) fu 0 (by decide) (by decide)
    have z : tbR (w.1 22) o t 0 = (wA w 21 (upd (w.1 21) t (nI m))).1 22 := by
      rw [wA_n _ _ (by decide)]
      funext j
      unfold tbR
      rw [if_neg (show ¬ j < 0 by omega)]
    rw [z, wA_self, ← tbM_5] at this
    exact this
  unfold f_X5_tell
  by_cases h : nI m = 0
  · rw [if_pos h] at ho ⊢
    rw [← ho]; exact key
  · rw [if_neg h] at ho ⊢
    rw [← ho]; exact key
theorem op_terrier (p0 p1' p2 : Int32) {w : Wd} (h : Rel w) : Agree (f_X9_terrier p0 p1' p2) (f_X10_terrier p0 p1' p2) w := by
  obtain ⟨he, -, -, -, hn⟩ := id h
  have r49 := he.2.2.2.2.2.2.2.2.2.2.2.2.1
  have r50 := he.2.2.2.2.2.2.2.2.2.2.2.2.2.1
  unfold Agree f_X9_terrier f_X10_terrier
  simp only [e_within, e_in, Option.bind_some, b2i_0]
  cases h1 : wi p0 0 4 with
  | false => exact ⟨-2, w, w, rfl, rfl, h⟩
  | true =>
    cases h2 : wi p1' 0 30 with
    | false => exact ⟨-3, w, w, rfl, rfl, h⟩
    | true =>
      cases h3 : wi p2 0 31 with
      | false => exact ⟨-3, w, w, rfl, rfl, h⟩
      | true =>
        simp only [reduceCtorEq, if_false, Bool.true_eq_false]
        obtain ⟨t, ht, rfl⟩ := wi_nI (n := 4) (by decide) h1
        obtain ⟨m, hm, rfl⟩ := wi_nI (n := 30) (by decide) h2
        obtain ⟨s, hs, rfl⟩ := wi_nI (n := 31) (by decide) h3
        have ht : t < 5 := by omega
        obtain ⟨o, ho⟩ : ∃ o : Int32, o = if nI m = 0 then 0 else nI s &&& (jshl 1 (nI t) ^^^ (-1)) := ⟨_, rfl⟩
        have hob : ∀ i, bt o i = true → i < 5 := by
          intro i hi
          rw [ho] at hi
          split at hi
          · rw [b_0] at hi; cases hi
          · rw [b_and, Bool.and_eq_true] at hi
            exact bt_small (k := 5) (by omega) hi.1
        refine ⟨1, wA (wA w 21 (upd (w.1 21) t (nI m))) 22 (tbM (w.1 22) o t 5), wA (wA (wA (wA w 21 (upd (w.1 21) t (nI m))) 22 (tbM (w.1 22) o t 5)) 49 (upd (w.1 49) t (nI m))) 50 (tbM (w.1 50) o t 5), ?_, ?_, ?_⟩
        · rw [e_tell (nI s) ht ho, Option.bind_some]
        · simp only [inB_nI ht (show 5 < 2 ^ 31 by decide), ix_nI (show t < 2 ^ 31 by omega), if_true]
          obtain ⟨v, hv⟩ : ∃ v : Wd, v = wA (wA w 21 (upd (w.1 21) t (nI m))) 22 (tbM (w.1 22) o t 5) := ⟨_, rfl⟩
          have v49 : v.1 49 = w.1 49 := by rw [hv, wA_n _ _ (by decide), wA_n _ _ (by decide)]
          have v50 : v.1 50 = w.1 50 := by rw [hv, wA_n _ _ (by decide), wA_n _ _ (by decide)]
          rw [← hv]
          have key : f_X10_terrier_66 fu (nI t) 0 (wS (wS v 49 t (nI m)) 50 t o) = some (1, wA (wA v 49 (upd (w.1 49) t (nI m))) 50 (tbM (w.1 50) o t 5)) := by
            have := m_terrier_66 (w := wA v 49 (upd (w.1 49) t (nI m))) (o := o) ht (w.1 50) fu 0 (by decide) (by decide)
            rw [tbM_0] at this
            rw [← this]
            show f_X10_terrier_66 fu (nI t) 0 (wA (wA v 49 (upd (v.1 49) t (nI m))) 50 (upd ((wA v 49 (upd (v.1 49) t (nI m))).1 50) t o)) = _
            rw [wA_n (k := 49) (a := 50) _ _ (by decide), v49, v50]
            rfl
          by_cases hz : nI m = 0
          · rw [if_pos hz] at ho ⊢
            subst ho; exact key
          · rw [if_neg hz] at ho ⊢
            subst ho; exact key
        · refine h.te (((((simX.rf _ w).all _ (fun _ => rfl)).all _ (fun _ => rfl)).all _ (fun _ => rfl)).all _ (fun _ => rfl)) ?_ ?_ ?_ ?_
          · show upd (w.1 49) t (nI m) = upd (w.1 21) t (nI m)
            rw [r49]
          · show tbM (w.1 50) o t 5 = tbM (w.1 22) o t 5
            rw [r50]
          · intro j hj
            show nb (upd (w.1 21) t (nI m) j) 0 30
            by_cases e : j = t
            · subst e; rw [pk_us]; exact ⟨m, by omega, hm, rfl⟩
            · rw [pk_un e]; exact hn.2.2.2.2.2.2.2.2.2.2.1 j hj
          · intro j hj i hi
            have hi : bt (tbM (w.1 22) o t 5 j) i = true := hi
            unfold tbM tbR at hi
            split at hi
            · exact hob i hi
            · unfold tbC at hi
              rw [b_or, Bool.or_eq_true, b_and, Bool.and_eq_true] at hi
              rcases hi with hi | hi
              · exact hn.2.2.2.2.2.2.2.2.2.2.2.1 j hj i hi.1
              · split at hi
                · rcases Nat.lt_or_ge i 32 with q | q
                  · have := bt_one 0 (show t < 32 by omega) q
                    rw [b_0, Bool.false_or] at this
                    have e0 : (0 : Int32) ||| jshl 1 (nI t) = jshl 1 (nI t) := by
                      apply b_ext; intro z _; rw [b_or, b_0, Bool.false_or]
                    rw [e0, hi] at this
                    have := of_decide_eq_true this.symm
                    omega
                  · rw [b_big q] at hi; cases hi
                · rw [b_0] at hi; cases hi
