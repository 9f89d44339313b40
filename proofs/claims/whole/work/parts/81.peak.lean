/-! peak -/
def isPk (Y : Nat → Nat) (b : Nat) : Prop := b ≤ 2000 ∧ (∀ c, c ≤ 2000 → Y c ≤ Y b) ∧ ∀ c, c < b → Y c < Y b
theorem isPk_one {Y : Nat → Nat} {a b : Nat} (ha : isPk Y a) (hb : isPk Y b) : a = b := by
  rcases Nat.lt_or_ge a b with h | h
  · have h1 := hb.2.2 a h
    have h2 := ha.2.1 b hb.1
    omega
  · rcases Nat.lt_or_ge b a with h' | h'
    · have h1 := ha.2.2 b h'
      have h2 := hb.2.1 a ha.1
      omega
    · omega
theorem isPk_ex (Y : Nat → Nat) : ∃ b, isPk Y b := by
  have T : ∀ n, ∃ b, b ≤ n ∧ (∀ c, c ≤ n → Y c ≤ Y b) ∧ ∀ c, c < b → Y c < Y b := by
    intro n
    induction n with
    | zero => exact ⟨0, Nat.le_refl _, fun c hc => by have : c = 0 := by omega
                                                      subst this; exact Nat.le_refl _, fun c hc => by omega⟩
    | succ n ih =>
      obtain ⟨b, h1, h2, h3⟩ := ih
      by_cases h : Y b < Y (n + 1)
      · refine ⟨n + 1, Nat.le_refl _, fun c hc => ?_, fun c hc => ?_⟩
        · by_cases e : c = n + 1
          · subst e; exact Nat.le_refl _
          · have := h2 c (by omega); omega
        · have := h2 c (by omega); omega
      · refine ⟨b, by omega, fun c hc => ?_, h3⟩
        by_cases e : c = n + 1
        · subst e; omega
        · exact h2 c (by omega)
  exact T 2000
def pkY (w : Wd) (y : Nat) : Nat := psN w true y 8
theorem psN_mono {w : Wd} {z : Bool} {y y' : Nat} : ∀ i, (∀ b, b < i → bt (w.1 5 0) b = true → plB w z y b = true → plB w z y' b = true) → psN w z y i ≤ psN w z y' i
  | 0, _ => Nat.le_refl _
  | i + 1, h => by
    have ih := psN_mono (w := w) (z := z) (y := y) (y' := y') i (fun b hb => h b (by omega))
    rw [psN, psN]
    cases hb : bt (w.1 5 0) i with
    | false => rw [Bool.false_and, Bool.false_and, if_neg (by decide)]; exact Nat.add_le_add ih (Nat.le_refl _)
    | true =>
      rw [Bool.true_and, Bool.true_and]
      cases hp : plB w z y i with
      | false => rw [if_neg (by decide)]; omega
      | true => rw [h i (by omega) hb hp]; omega
def cdN (w : Wd) (b : Nat) : Nat := (yL w b).toNat
theorem alB_t {P : Nat → Bool} : ∀ {n : Nat}, alB P n = true → ∀ k, k < n → P k = true
  | 0, _, k, hk => by omega
  | n + 1, h, k, hk => by
    rw [alB, Bool.and_eq_true] at h
    by_cases e : k = n
    · subst e; exact h.2
    · exact alB_t h.1 k (by omega)
theorem yOK_t {w : Wd} (hy : yOK w = true) {t : Nat} (ht : t < 14) (hb : bt (w.1 5 0) t = true) : yL w t ≤ yH w t := by
  unfold yOK at hy
  rw [Bool.and_eq_true] at hy
  have := alB_t hy.2 t ht
  rw [hb] at this
  simpa using this
theorem yL_0 {w : Wd} (h : Rel w) (t : Nat) : 0 ≤ yL w t := by
  have a2 := paI_up (qX w) pT pU (L0 w) 14 t
  have a4 := (L0_b h t).1
  unfold yL yLn
  rw [psI_0]
  omega
theorem yH_2000 {w : Wd} (h : Rel w) (t : Nat) : yH w t ≤ 2000 := by
  have a2 := paI_up (qY w) pU pT (M0 w) 14 t
  have a4 := (M0_b h t).1
  unfold yH yMn
  rw [psI_0]
  omega
theorem cdN_ok {w : Wd} (h : Rel w) (hy : yOK w = true) {t : Nat} (ht : t < 14) (hb : bt (w.1 5 0) t = true) : yL w t = (cdN w t : Int) ∧ cdN w t ≤ 2000 := by
  have h1 := yL_0 h t
  have h2 := yH_2000 h t
  have h3 := yOK_t hy ht hb
  unfold cdN
  omega
/-- the peak is 0 or where a bundle begins -/
theorem pk_cand {w : Wd} (h : Rel w) (hy : yOK w = true) {p : Nat} (hp : isPk (pkY w) p) (h0 : 0 < p) : ∃ b, b < 8 ∧ bt (w.1 5 0) b = true ∧ cdN w b = p := by
  apply Classical.byContradiction
  intro hn
  have h1 := hp.2.2 (p - 1) (by omega)
  have : pkY w p ≤ pkY w (p - 1) := by
    refine psN_mono 8 (fun b hb ht hpl => ?_)
    obtain ⟨e, -⟩ := cdN_ok h hy (t := b) (by omega) ht
    unfold plB bgI at hpl ⊢
    simp only [Bool.and_eq_true, decide_eq_true_eq, if_true] at hpl ⊢
    have hne : cdN w b ≠ p := fun e => hn ⟨b, hb, ht, e⟩
    rw [e] at hpl ⊢
    omega
  omega
def dmP (Y : Nat → Nat) (a c : Nat) : Prop := Y c < Y a ∨ (Y c = Y a ∧ a ≤ c)
theorem dmP_tr {Y : Nat → Nat} {a b c : Nat} (h1 : dmP Y a b) (h2 : dmP Y b c) : dmP Y a c := by
  unfold dmP at *; omega
theorem dmP_rf (Y : Nat → Nat) (a : Nat) : dmP Y a a := Or.inr ⟨rfl, Nat.le_refl _⟩
theorem pkY_b {w : Wd} (h : Rel w) (y : Nat) : pkY w y < 2 ^ 31 := by
  have := psN_b h true y 8 (Nat.le_refl _)
  unfold pkY; omega
theorem e_most_11 {w v : Wd} (h : Rel w) (hy : yOK w = true) (s : sim w v) (r : ∀ t, t < 14 → v.1 13 t = tI (yL w t) ∧ v.1 14 t = tI (yH w t)) : ∀ (n i best : Nat), i ≤ 8 → 8 - i < n → best ≤ 2000 → dmP (pkY w) best 0 → (∀ b, b < i → bt (w.1 5 0) b = true → dmP (pkY w) best (cdN w b)) → ∃ a, a ≤ 2000 ∧ dmP (pkY w) a 0 ∧ (∀ b, b < 8 → bt (w.1 5 0) b = true → dmP (pkY w) a (cdN w b)) ∧ f_X3_yearOfMost_11 n (nI best) (nI (pkY w best)) (nI i) v = some (nI a, v) := by
  intro n
  induction n with
  | zero => intro i _ _ h; omega
  | succ n ih =>
    intro i best hi hn hbe hd0 hd
    rw [f_X3_yearOfMost_11]
    by_cases h8 : i = 8
    · subst h8
      rw [if_pos (by decide)]
      exact ⟨best, hbe, hd0, hd, rfl⟩
    · have hi8 : i < 8 := by omega
      rw [if_neg (n8 hi8), e_isBundle, Option.bind_some, s 5 0 rfl]
      dsimp only
      rw [show isT 7 (w.1 5 0) (nI i) = bt (w.1 5 0) i from nI_isT (n := 7) (by omega) (by decide)]
      unfold f_X3_yearOfMost_65
      rw [p1]
      cases hb : bt (w.1 5 0) i with
      | false =>
        rw [if_pos bz]
        refine ih (i + 1) best (by omega) (by omega) hbe hd0 (fun b hbi ht => ?_)
        by_cases e : b = i
        · subst e; rw [hb] at ht; cases ht
        · exact hd b (by omega) ht
      | true =>
        obtain ⟨e1, l1⟩ := cdN_ok h hy (t := i) (by omega) hb
        obtain ⟨r1, -⟩ := r i (by omega)
        rw [if_neg bnz, e_earliest (by omega), Option.bind_some, r1, e1, tI_nI]
        dsimp only
        rw [show f_X3_yardsIn (nI (cdN w i)) 1 v = some (nI (pkY w (cdN w i)), v) from e_yardsIn h s r true l1, Option.bind_some]
        dsimp only
        have b1 := pkY_b h best
        have b2 := pkY_b h (cdN w i)
        have new : dmP (pkY w) (cdN w i) best → ∃ a, a ≤ 2000 ∧ dmP (pkY w) a 0 ∧ (∀ b, b < 8 → bt (w.1 5 0) b = true → dmP (pkY w) a (cdN w b)) ∧ f_X3_yearOfMost_11 n (nI (cdN w i)) (nI (pkY w (cdN w i))) (nI (i + 1)) v = some (nI a, v) := by
          intro hdm
          refine ih (i + 1) (cdN w i) (by omega) (by omega) l1 (dmP_tr hdm hd0) (fun b hbi ht => ?_)
          by_cases e : b = i
          · subst e; exact dmP_rf _ _
          · exact dmP_tr hdm (hd b (by omega) ht)
        have old : dmP (pkY w) best (cdN w i) → ∃ a, a ≤ 2000 ∧ dmP (pkY w) a 0 ∧ (∀ b, b < 8 → bt (w.1 5 0) b = true → dmP (pkY w) a (cdN w b)) ∧ f_X3_yearOfMost_11 n (nI best) (nI (pkY w best)) (nI (i + 1)) v = some (nI a, v) := by
          intro hdm
          refine ih (i + 1) best (by omega) (by omega) hbe hd0 (fun b hbi ht => ?_)
          by_cases e : b = i
          · subst e; exact hdm
          · exact hd b (by omega) ht
        by_cases c1 : pkY w best < pkY w (cdN w i)
        · rw [if_pos (nI_lt c1 b2)]
          exact new (Or.inl c1)
        · rw [if_neg (nI_nlt (by omega) b1)]
          by_cases c2 : pkY w (cdN w i) = pkY w best
          · rw [if_pos (by rw [c2])]
            by_cases c3 : best ≤ cdN w i
            · rw [if_pos (nI_le c3 (by omega))]
              exact old (Or.inr ⟨c2, c3⟩)
            · rw [if_neg (nI_ge (by omega) (by omega))]
              exact new (Or.inr ⟨c2.symm, by omega⟩)
          · rw [if_neg (fun e => c2 ((nI_eq b2 b1).mp e))]
            exact old (Or.inl (by omega))
theorem e_yearOfMost {w v : Wd} (h : Rel w) (hy : yOK w = true) (s : sim w v) (r : ∀ t, t < 14 → v.1 13 t = tI (yL w t) ∧ v.1 14 t = tI (yH w t)) : ∃ a, isPk (pkY w) a ∧ f_X3_yearOfMost v = some (nI a, v) := by
  unfold f_X3_yearOfMost
  rw [show f_X3_yardsIn 0 1 v = some (nI (pkY w 0), v) from e_yardsIn (y := 0) h s r true (by decide), Option.bind_some]
  dsimp only
  obtain ⟨a, h1, h2, h3, e⟩ := e_most_11 h hy s r fu 0 0 (by decide) (by decide) (by decide) (dmP_rf _ _) (fun b hb => by omega)
  refine ⟨a, ?_, e⟩
  obtain ⟨p, hp⟩ := isPk_ex (pkY w)
  have hd : dmP (pkY w) a p := by
    rcases Nat.eq_zero_or_pos p with e | e
    · subst e; exact h2
    · obtain ⟨b, hb, ht, e⟩ := pk_cand h hy hp e
      subst e; exact h3 b hb ht
  have : a = p := by
    have m1 := hp.2.1 a h1
    unfold dmP at hd
    rcases Nat.lt_or_ge a p with q | q
    · have := hp.2.2 a q; omega
    · omega
  subst this
  exact hp
theorem m_peak_28 {w v : Wd} (h : Rel w) (s : sim w v) (r : yRow w v) (z : Bool) : ∀ (n i best : Nat), 1 ≤ i → i ≤ 2001 → 2001 - i < n → best < i → (∀ c, c < i → pkY w c ≤ pkY w best) → (∀ c, c < best → pkY w c < pkY w best) → ∃ a, isPk (pkY w) a ∧ f_X10_peak_28 n (b2i z) (nI best) (nI (pkY w best)) (nI i) v = some (if z then nI (pkY w a) else nI a, v) := by
  intro n
  induction n with
  | zero => intro i _ _ _ h; omega
  | succ n ih =>
    intro i best h1i hi hn hb1 hb2 hb3
    rw [f_X10_peak_28]
    by_cases hl : i = 2001
    · subst hl
      rw [if_pos (by decide)]
      refine ⟨best, ⟨by omega, fun c hc => hb2 c (by omega), hb3⟩, ?_⟩
      cases z <;> rfl
    · rw [if_neg (show ¬ (2000 : Int32) < nI i from nI_nlt (a := 2000) (by omega) (by decide)), show f_X10_ploughedIn (nI i) 1 v = some (nI (pkY w i), v) from m_ploughedIn h s r true (by omega), Option.bind_some]
      dsimp only
      unfold f_X10_peak_57
      rw [p1]
      have b1 := pkY_b h best
      have b2 := pkY_b h i
      by_cases c : pkY w i ≤ pkY w best
      · rw [if_pos (nI_le c b1), if_pos (nI_le c b1)]
        refine ih (i + 1) best (by omega) (by omega) (by omega) (by omega) (fun d hd => ?_) hb3
        by_cases e : d = i
        · subst e; exact c
        · exact hb2 d (by omega)
      · rw [if_neg (nI_ge (by omega) b2), if_neg (nI_ge (by omega) b2)]
        refine ih (i + 1) i (by omega) (by omega) (by omega) (by omega) (fun d hd => ?_) (fun d hd => ?_)
        · by_cases e : d = i
          · subst e; exact Nat.le_refl _
          · have := hb2 d (by omega); omega
        · have := hb2 d (by omega); omega
theorem m_peak {w v : Wd} (h : Rel w) (s : sim w v) (r : yRow w v) (z : Bool) : ∃ a, isPk (pkY w) a ∧ f_X10_peak_28 fu (b2i z) 0 (-1) 0 v = some (if z then nI (pkY w a) else nI a, v) := by
  rw [show fu = 99999 + 1 from rfl, f_X10_peak_28, if_neg (by decide), show f_X10_ploughedIn 0 1 v = some (nI (pkY w 0), v) from m_ploughedIn (y := 0) h s r true (by decide), Option.bind_some]
  dsimp only
  unfold f_X10_peak_57
  have b1 := pkY_b h 0
  have : ¬ nI (pkY w 0) ≤ -1 := by rw [fa_le, nI_toInt b1, show (-1 : Int32).toInt = -1 from rfl]; omega
  rw [if_neg this, if_neg this]
  exact m_peak_28 h s r z 99999 1 0 (by decide) (by decide) (by decide) (by decide) (fun c hc => by have : c = 0 := by omega
                                                                                                    subst this; exact Nat.le_refl _) (fun c hc => by omega)
theorem pkY_sim {w v : Wd} (s : sim w v) : pkY v = pkY w := by funext y; exact psN_sim s true y 8
theorem op_peak (q0 : Int32) {w : Wd} (h : Rel w) : Agree (f_X9_peak q0) (f_X10_peak q0) w := by
  cases h2 : wi q0 0 1 with
  | false =>
    refine ⟨-3, w, w, ?_, ?_, h⟩
    · unfold f_X9_peak; rw [e_within, Option.bind_some, h2]; rfl
    · unfold f_X10_peak; rw [e_in, Option.bind_some, h2]; rfl
  | true =>
    obtain ⟨z, rfl⟩ := wi01 h2
    obtain ⟨v, e1, s1, r1⟩ := e_settle h
    obtain ⟨p, hp⟩ := isPk_ex (pkY w)
    refine Agree.ask (a := if yOK w = true then (if z then nI (pkY w p) else nI p) else -1) h ⟨v, ?_, s1⟩ (fun u hu s => ?_)
    · unfold f_X9_peak
      rw [e_within, Option.bind_some, h2]
      dsimp only
      rw [if_neg bnz, e1, Option.bind_some]
      dsimp only
      cases hy : yOK w with
      | false => rw [if_pos bz, if_neg (by decide)]
      | true =>
        obtain ⟨a, ha, ea⟩ := e_yearOfMost h hy s1 (r1 hy)
        have : a = p := isPk_one ha hp
        subst this
        rw [if_neg bnz, if_pos rfl, ea, Option.bind_some]
        dsimp only
        cases z with
        | false => rw [if_pos bz]; rfl
        | true =>
          rw [if_neg bnz, show f_X3_yardsIn (nI a) 1 v = some (nI (pkY w a), v) from e_yardsIn h s1 (r1 hy) true ha.1, Option.bind_some]
          rfl
    · obtain ⟨x, e2, s2, r2⟩ := m_areYears hu
      refine ⟨x, ?_, s2⟩
      unfold f_X10_peak
      rw [e_in, Option.bind_some, h2]
      dsimp only
      rw [if_neg bnz, e2, Option.bind_some, yOK_sim s]
      dsimp only
      cases hy : yOK w with
      | false => rw [if_pos bz, if_neg (by decide)]
      | true =>
        obtain ⟨a, ha, ea⟩ := m_peak hu s2 (r2 (by rw [yOK_sim s]; exact hy)) z
        rw [pkY_sim s] at ha ea
        have : a = p := isPk_one ha hp
        subst this
        rw [if_neg bnz, if_pos rfl, ea]
