/-! ploughed -/
def lsI (w : Wd) (z : Bool) (b : Nat) : Nat → Int
  | 0 => 2001
  | i + 1 => if bt (ruX w (8 + i)) b then (if (if z then yH w (8 + i) else yL w (8 + i)) < lsI w z b i then (if z then yH w (8 + i) else yL w (8 + i)) else lsI w z b i) else lsI w z b i
def bgI (w : Wd) (z : Bool) (b : Nat) : Int := if z then yL w b else yH w b
def plB (w : Wd) (z : Bool) (y b : Nat) : Bool := decide (bgI w z b ≤ y) && decide ((y : Int) < lsI w z b 6)
def ydN (w : Wd) (b : Nat) : Nat := (w.1 37 b * w.1 38 b).toInt.toNat
def psN (w : Wd) (z : Bool) (y : Nat) : Nat → Nat
  | 0 => 0
  | b + 1 => psN w z y b + (if bt (w.1 5 0) b && plB w z y b then ydN w b else 0)
theorem lsI_b {w : Wd} (h : Rel w) (z : Bool) (b : Nat) : ∀ i, -10000 ≤ lsI w z b i ∧ lsI w z b i ≤ 10000
  | 0 => by unfold lsI; omega
  | i + 1 => by
    have ih := lsI_b h z b i
    have b1 := yL_b h (8 + i)
    have b2 := yH_b h (8 + i)
    rw [lsI]
    cases z
    · simp only [Bool.false_eq_true, if_false]
      split
      · split <;> omega
      · omega
    · simp only [if_true]
      split
      · split <;> omega
      · omega
theorem tI_nI (n : Nat) : tI n = nI n := by
  unfold tI nI
  exact Int32.ofInt_eq_ofNat
theorem e_loss_8 {w v : Wd} (h : Rel w) (s : sim w v) (r : ∀ t, t < 14 → v.1 13 t = tI (yL w t) ∧ v.1 14 t = tI (yH w t)) (z : Bool) {b : Nat} (hb : b < 8) : ∀ (n i : Nat), i ≤ 6 → 6 - i < n → f_X3_yearOfLoss_8 n (nI b) (b2i z) (tI (lsI w z b i)) (nI (8 + i)) v = some (tI (lsI w z b 6), v) := by
  intro n
  induction n with
  | zero => intro u _ h; omega
  | succ n ih =>
    intro i hi hn
    rw [f_X3_yearOfLoss_8]
    by_cases h6 : i = 6
    · subst h6
      rw [if_pos (by decide)]
    · have i1 := ih (i + 1) (by omega) (by omega)
      rw [if_neg (n14 (by omega)), e_right (by omega), Option.bind_some]
      dsimp only
      rw [e_has _ (by omega), Option.bind_some, ruX_w (s.row 5 (fun _ => rfl)) (s.row 10 (fun _ => rfl))]
      dsimp only
      unfold f_X3_yearOfLoss_58
      rw [p1]
      rw [← Nat.add_assoc, lsI] at i1
      obtain ⟨r1, r2⟩ := r (8 + i) (by omega)
      have b0 := lsI_b h z b i
      have b1 := yL_b h (8 + i)
      have b2 := yH_b h (8 + i)
      cases hb : bt (ruX w (8 + i)) b with
      | false =>
        rw [if_pos bz]
        rw [hb, if_neg (by decide)] at i1
        exact i1
      | true =>
        rw [if_neg bnz]
        rw [hb, if_pos rfl] at i1
        cases z with
        | false =>
          rw [if_neg (by decide), e_earliest (by omega), Option.bind_some, r1]
          dsimp only
          simp only [Bool.false_eq_true, if_false] at i1
          unfold jmin
          simp only [tI_lt (x := yL w (8 + i)) (y := lsI w false b i) (by unfold smI; omega) (by unfold smI; omega)]
          split at i1
          · rename_i c; rw [if_pos c]; exact i1
          · rename_i c; rw [if_neg c]; exact i1
        | true =>
          rw [if_pos (show b2i true = 1 from rfl), e_latest (by omega), Option.bind_some, r2]
          dsimp only
          rw [if_pos rfl] at i1
          unfold jmin
          simp only [tI_lt (x := yH w (8 + i)) (y := lsI w true b i) (by unfold smI; omega) (by unfold smI; omega)]
          split at i1
          · rename_i c; rw [if_pos c]; exact i1
          · rename_i c; rw [if_neg c]; exact i1
theorem e_isPl {w v : Wd} (h : Rel w) (s : sim w v) (r : ∀ t, t < 14 → v.1 13 t = tI (yL w t) ∧ v.1 14 t = tI (yH w t)) (z : Bool) {b y : Nat} (hb : b < 8) (hy : y ≤ 2000) : f_X3_isPloughed (nI b) (nI y) (b2i z) v = some (b2i (plB w z y b), v) := by
  have b0 := lsI_b h z b 6
  have b1 := yL_b h b
  have b2 := yH_b h b
  obtain ⟨r1, r2⟩ := r b (by omega)
  have T : ∀ x, x = tI (bgI w z b) → f_X3_isPloughed_24 x (nI b) (nI y) (b2i z) v = some (b2i (plB w z y b), v) := by
    intro x e
    subst e
    unfold f_X3_isPloughed_24 f_X3_yearOfLoss plB
    have hbg : -10000 ≤ bgI w z b ∧ bgI w z b ≤ 10000 := by unfold bgI; split <;> omega
    rw [show f_X3_yearOfLoss_8 fu (nI b) (b2i z) 2001 8 v = _ from e_loss_8 h s r z hb fu 0 (by decide) (by decide), Option.bind_some]
    dsimp only
    rw [← tI_nI y]
    simp only [tI_lt (x := (y : Int)) (y := bgI w z b) (by unfold smI; omega) (by unfold smI; omega), tI_le (x := lsI w z b 6) (y := (y : Int)) (by unfold smI; omega) (by unfold smI; omega)]
    by_cases c1 : (y : Int) < bgI w z b
    · rw [if_pos c1, decide_eq_false (by omega), Bool.false_and]; rfl
    · rw [if_neg c1, decide_eq_true (by omega), Bool.true_and]
      by_cases c2 : lsI w z b 6 ≤ y
      · rw [if_pos c2, decide_eq_false (by omega)]; rfl
      · rw [if_neg c2, decide_eq_true (by omega)]; rfl
  unfold f_X3_isPloughed
  cases z with
  | false =>
    rw [if_neg (by decide), e_latest (by omega), Option.bind_some]
    exact T _ r2
  | true =>
    rw [if_pos (show b2i true = 1 from rfl), e_earliest (by omega), Option.bind_some]
    exact T _ r1
theorem yd_ok {w : Wd} (h : Rel w) {b : Nat} (hb : b < 8) (ht : bt (w.1 5 0) b = true) : w.1 37 b * w.1 38 b = nI (ydN w b) ∧ ydN w b ≤ 300000 := by
  obtain ⟨-, -, -, -, -, ⟨x, x1, x2, ex⟩, ⟨y, y1, y2, ey⟩, ⟨u, u1, u2, eu⟩, -⟩ := h.2.2.1 b hb ht
  have e := h.yards hb ht
  rw [ex, ey, eu, pk_mul, pk_mul] at e
  have l1 : x * y ≤ 30 * 20 := Nat.mul_le_mul x2 y2
  have l2 : x * y * u ≤ 600 * 500 := Nat.mul_le_mul l1 u2
  unfold ydN
  rw [← e, nI_toInt (by omega)]
  rw [Int.toNat_natCast]
  exact ⟨rfl, l2⟩
theorem psN_b {w : Wd} (h : Rel w) (z : Bool) (y : Nat) : ∀ i, i ≤ 8 → psN w z y i ≤ 300000 * i
  | 0, _ => Nat.le_refl _
  | i + 1, hi => by
    have ih := psN_b h z y i (by omega)
    rw [psN]
    split
    · rename_i hc
      rw [Bool.and_eq_true] at hc
      have := (yd_ok h (b := i) (by omega) hc.1).2
      omega
    · omega
theorem e_yardsIn_5 {w v : Wd} (h : Rel w) (s : sim w v) (r : ∀ t, t < 14 → v.1 13 t = tI (yL w t) ∧ v.1 14 t = tI (yH w t)) (z : Bool) {y : Nat} (hy : y ≤ 2000) : ∀ (n i : Nat), i ≤ 8 → 8 - i < n → f_X3_yardsIn_5 n (nI y) (b2i z) (nI (psN w z y i)) (nI i) v = some (nI (psN w z y 8), v) := by
  intro n
  induction n with
  | zero => intro u _ h; omega
  | succ n ih =>
    intro i hi hn
    rw [f_X3_yardsIn_5]
    by_cases h8 : i = 8
    · subst h8
      rw [if_pos (by decide)]
    · have i1 := ih (i + 1) (by omega) (by omega)
      have hi8 : i < 8 := by omega
      rw [if_neg (n8 hi8), e_isBundle, Option.bind_some, s 5 0 rfl, p1]
      dsimp only
      rw [show isT 7 (w.1 5 0) (nI i) = bt (w.1 5 0) i from nI_isT (n := 7) (by omega) (by decide)]
      rw [psN] at i1
      cases hb : bt (w.1 5 0) i with
      | false =>
        rw [if_pos bz]
        rw [hb, Bool.false_and, if_neg (by decide), Nat.add_zero] at i1
        exact i1
      | true =>
        rw [if_neg bnz, e_isPl h s r z hi8 hy, Option.bind_some]
        dsimp only
        rw [hb, Bool.true_and] at i1
        cases hp : plB w z y i with
        | false =>
          rw [if_pos bz]
          rw [hp, if_neg (by decide), Nat.add_zero] at i1
          exact i1
        | true =>
          rw [if_neg bnz, e_yards hi8, Option.bind_some, s.row 6 (fun _ => rfl), h.yards hi8 hb, (yd_ok h hi8 hb).1]
          dsimp only
          rw [nI_add]
          rw [hp, if_pos rfl] at i1
          exact i1
theorem e_yardsIn {w v : Wd} (h : Rel w) (s : sim w v) (r : ∀ t, t < 14 → v.1 13 t = tI (yL w t) ∧ v.1 14 t = tI (yH w t)) (z : Bool) {y : Nat} (hy : y ≤ 2000) : f_X3_yardsIn (nI y) (b2i z) v = some (nI (psN w z y 8), v) := e_yardsIn_5 h s r z hy fu 0 (by decide) (by decide)
theorem m_pl_30 {w v : Wd} (h : Rel w) (s : sim w v) (r : yRow w v) (z : Bool) {b y : Nat} (hb : b < 8) (ht : bt (w.1 5 0) b = true) (hy : y ≤ 2000) (x : Int32) (k5 : Int32 → Int32 → Int32 → Int32 → Wd → Option (Int32 × Wd)) : ∀ (n i : Nat), i ≤ 6 → 6 - i < n → f_X10_ploughedIn_30 k5 n (nI y) (b2i z) x (nI b) (tI (lsI w z b i)) (nI (8 + i)) v = k5 (nI y) (b2i z) (x + nI (if plB w z y b then ydN w b else 0)) (nI (b + 1)) v := by
  have hv := h.sim s
  intro n
  induction n with
  | zero => intro u _ h; omega
  | succ n ih =>
    intro i hi hn
    rw [f_X10_ploughedIn_30]
    by_cases h6 : i = 6
    · subst h6
      rw [if_pos (by decide)]
      have b0 := lsI_b h z b 6
      have b1 := yL_b h b
      have b2 := yH_b h b
      have hbg : -10000 ≤ bgI w z b ∧ bgI w z b ≤ 10000 := by unfold bgI; split <;> omega
      obtain ⟨r1, r2⟩ := r b (by omega) ht
      have T : ∀ q, q = tI (bgI w z b) → f_X10_ploughedIn_121 k5 x (nI y) q (nI y) (b2i z) (nI b) (tI (lsI w z b 6)) v = k5 (nI y) (b2i z) (x + nI (if plB w z y b then ydN w b else 0)) (nI (b + 1)) v := by
        intro q e
        subst e
        unfold f_X10_ploughedIn_121 f_X10_ploughedIn_139 plB
        rw [m_yards (by omega), Option.bind_some, s.row 37 (fun _ => rfl), s.row 38 (fun _ => rfl), (yd_ok h hb ht).1]
        dsimp only
        rw [p1]
        have e1 : (nI y < tI (bgI w z b)) = ((y : Int) < bgI w z b) := by rw [← tI_nI y, tI_lt (by unfold smI; omega) (by unfold smI; omega)]
        have e2 : (tI (lsI w z b 6) ≤ nI y) = (lsI w z b 6 ≤ (y : Int)) := by rw [← tI_nI y, tI_le (by unfold smI; omega) (by unfold smI; omega)]
        simp only [e1, e2]
        by_cases c1 : (y : Int) < bgI w z b
        · rw [if_pos c1, decide_eq_false (by omega), Bool.false_and]; rfl
        · rw [if_neg c1, decide_eq_true (show bgI w z b ≤ y by omega), Bool.true_and]
          by_cases c2 : lsI w z b 6 ≤ y
          · rw [if_pos c2, decide_eq_false (by omega)]; rfl
          · rw [if_neg c2, decide_eq_true (show (y : Int) < lsI w z b 6 by omega)]; rfl
      rw [inB_nI (by omega) (by decide), if_pos rfl, if_pos rfl, ix_nI (by omega)]
      cases z with
      | false => rw [if_pos bz]; exact T _ r2
      | true => rw [if_neg bnz]; exact T _ r1
    · have i1 := ih (i + 1) (by omega) (by omega)
      rw [if_neg (n14 (by omega)), m_isPair hv.told hv.e.2.2.2.2.2.2.2.2.2.2.1 (by omega) (by omega), Option.bind_some, ruX_w (s.row 5 (fun _ => rfl)) (s.row 10 (fun _ => rfl))]
      dsimp only
      unfold f_X10_ploughedIn_74
      rw [p1]
      rw [← Nat.add_assoc, lsI] at i1
      have b0 := lsI_b h z b i
      have b1 := yL_b h (8 + i)
      have b2 := yH_b h (8 + i)
      cases hb : bt (ruX w (8 + i)) b with
      | false =>
        rw [if_pos bz, if_pos (Int32.le_refl _)]
        rw [hb, if_neg (by decide)] at i1
        exact i1
      | true =>
        obtain ⟨tm, -⟩ := ru_told hb
        obtain ⟨r1, r2⟩ := r (8 + i) (by omega) tm
        rw [if_neg bnz, inB_nI (by omega) (by decide), if_pos rfl, if_pos rfl, ix_nI (by omega), r1, r2]
        rw [hb, if_pos rfl] at i1
        cases z with
        | false =>
          rw [if_pos bz]
          simp only [Bool.false_eq_true, if_false] at i1
          simp only [tI_le (x := lsI w false b i) (y := yL w (8 + i)) (by unfold smI; omega) (by unfold smI; omega)]
          by_cases c : yL w (8 + i) < lsI w false b i
          · rw [if_pos c] at i1; rw [if_neg (by omega)]; exact i1
          · rw [if_neg c] at i1; rw [if_pos (by omega)]; exact i1
        | true =>
          rw [if_neg bnz]
          rw [if_pos rfl] at i1
          simp only [tI_le (x := lsI w true b i) (y := yH w (8 + i)) (by unfold smI; omega) (by unfold smI; omega)]
          by_cases c : yH w (8 + i) < lsI w true b i
          · rw [if_pos c] at i1; rw [if_neg (by omega)]; exact i1
          · rw [if_neg c] at i1; rw [if_pos (by omega)]; exact i1
theorem m_pl_5 {w v : Wd} (h : Rel w) (s : sim w v) (r : yRow w v) (z : Bool) {y : Nat} (hy : y ≤ 2000) : ∀ (n i : Nat), i ≤ 8 → 8 - i < n → f_X10_ploughedIn_5 n (nI y) (b2i z) (nI (psN w z y i)) (nI i) v = some (nI (psN w z y 8), v) := by
  have hv := h.sim s
  intro n
  induction n with
  | zero => intro u _ h; omega
  | succ n ih =>
    intro i hi hn
    rw [f_X10_ploughedIn_5]
    by_cases h8 : i = 8
    · subst h8
      rw [if_pos (by decide)]
    · have i1 := ih (i + 1) (by omega) (by omega)
      have hi8 : i < 8 := by omega
      rw [if_neg (n8 hi8), m_isBundle, Option.bind_some, hv.told, s 5 0 rfl]
      dsimp only
      rw [show isT 7 (w.1 5 0) (nI i) = bt (w.1 5 0) i from nI_isT (n := 7) (by omega) (by decide)]
      rw [psN] at i1
      cases hb : bt (w.1 5 0) i with
      | false =>
        rw [if_pos bz, p1]
        rw [hb, Bool.false_and, if_neg (by decide), Nat.add_zero] at i1
        exact i1
      | true =>
        rw [if_neg bnz]
        rw [hb, Bool.true_and] at i1
        have := m_pl_30 h s r z hi8 hb hy (nI (psN w z y i)) (f_X10_ploughedIn_5 n) fu 0 (by decide) (by decide)
        refine Eq.trans this ?_
        rw [nI_add]
        exact i1
theorem m_ploughedIn {w v : Wd} (h : Rel w) (s : sim w v) (r : yRow w v) (z : Bool) {y : Nat} (hy : y ≤ 2000) : f_X10_ploughedIn (nI y) (b2i z) v = some (nI (psN w z y 8), v) := m_pl_5 h s r z hy fu 0 (by decide) (by decide)
theorem ydN_s {w v : Wd} (s : sim w v) : ydN v = ydN w := by funext b; unfold ydN; rw [s.row 37 (fun _ => rfl), s.row 38 (fun _ => rfl)]
theorem psN_sim {w v : Wd} (s : sim w v) (z : Bool) (y : Nat) : ∀ i, psN v z y i = psN w z y i := by
  have e1 : ∀ b i, lsI v z b i = lsI w z b i := by
    intro b i
    induction i with
    | zero => rfl
    | succ i ih => rw [lsI, lsI, ih, yL_sim s, yH_sim s, ruX_w (s.row 5 (fun _ => rfl)) (s.row 10 (fun _ => rfl))]
  have e2 : ∀ b, plB v z y b = plB w z y b := by intro b; unfold plB bgI; rw [e1, yL_sim s, yH_sim s]
  intro i
  induction i with
  | zero => rfl
  | succ i ih => rw [psN, psN, ih, e2, ydN_s s, s 5 0 rfl]
theorem yRow_sim {w u v : Wd} (s : sim w u) (h : yRow u v) : yRow w v := by
  intro t ht hb
  have := h t ht (by rw [s 5 0 rfl]; exact hb)
  rw [yL_sim s, yH_sim s] at this
  exact this
theorem wi01 {q : Int32} (h : wi q 0 1 = true) : ∃ z, q = b2i z := by
  obtain ⟨j, hj, e⟩ := wi_nI (n := 1) (by decide) h
  rcases Nat.lt_or_ge j 1 with c | c
  · have : j = 0 := by omega
    subst this; exact ⟨false, e⟩
  · have : j = 1 := by omega
    subst this; exact ⟨true, e⟩
theorem op_ploughed (p0 q0 : Int32) {w : Wd} (h : Rel w) : Agree (f_X9_ploughed p0 q0) (f_X10_ploughed p0 q0) w := by
  cases h1 : wi p0 0 2000 with
  | false =>
    refine ⟨-3, w, w, ?_, ?_, h⟩
    · unfold f_X9_ploughed; rw [e_within, Option.bind_some, h1]; rfl
    · unfold f_X10_ploughed; rw [e_in, Option.bind_some, h1]; rfl
  | true =>
    cases h2 : wi q0 0 1 with
    | false =>
      refine ⟨-3, w, w, ?_, ?_, h⟩
      · unfold f_X9_ploughed; rw [e_within, Option.bind_some, h1, e_within, if_neg bnz, Option.bind_some]; dsimp only; rw [h2]; rfl
      · unfold f_X10_ploughed; rw [e_in, Option.bind_some, h1, e_in, if_neg bnz, Option.bind_some]; dsimp only; rw [h2]; rfl
    | true =>
      obtain ⟨y, hy, rfl⟩ := wi_nI (n := 2000) (by decide) h1
      obtain ⟨z, rfl⟩ := wi01 h2
      obtain ⟨v, e1, s1, r1⟩ := e_settle h
      refine Agree.ask (a := if yOK w = true then nI (psN w z y 8) else -1) h ⟨v, ?_, s1⟩ (fun u hu s => ?_)
      · unfold f_X9_ploughed
        rw [e_within, Option.bind_some, h1, e_within, if_neg bnz, Option.bind_some]
        dsimp only
        rw [h2, if_neg bnz, e1, Option.bind_some]
        dsimp only
        cases hy : yOK w with
        | false => rw [if_pos bz, if_neg (by decide)]
        | true => rw [if_neg bnz, if_pos rfl, e_yardsIn h s1 (r1 hy) z (by omega), Option.bind_some]
      · obtain ⟨x, e2, s2, r2⟩ := m_areYears hu
        refine ⟨x, ?_, s2⟩
        unfold f_X10_ploughed
        rw [e_in, Option.bind_some, h1, e_in, if_neg bnz, Option.bind_some]
        dsimp only
        rw [h2, if_neg bnz, e2, Option.bind_some, yOK_sim s]
        dsimp only
        cases hy : yOK w with
        | false => rw [if_pos bz, if_neg (by decide)]
        | true => rw [if_neg bnz, if_pos rfl, m_ploughedIn hu s2 (r2 (by rw [yOK_sim s]; exact hy)) z (by omega), Option.bind_some, psN_sim s]
