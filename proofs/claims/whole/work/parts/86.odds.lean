/-! odds -/
theorem e_common_2 {a b : Nat} (ha : a ≤ 1000) (hb : b ≤ 1000) (hb1 : 1 ≤ b) (w : Wd) : ∀ (n d : Nat), Nat.gcd a b ≤ d → d ≤ 1000 → d < n → f_X1_commonDivisor_2 n (nI a) (nI b) (nI d) w = some (nI (Nat.gcd a b), w) := by
  have g1 : 1 ≤ Nat.gcd a b := Nat.gcd_pos_of_pos_right a hb1
  intro n
  induction n with
  | zero => intro d _ _ h; omega
  | succ n ih =>
    intro d hd hd2 hn
    rw [f_X1_commonDivisor_2]
    by_cases h1 : d ≤ 1
    · rw [if_pos (show nI d ≤ 1 from nI_le (b := 1) h1 (by decide))]
      rw [show Nat.gcd a b = 1 by omega]; rfl
    · rw [if_neg (show ¬ nI d ≤ 1 from nI_ge (a := 1) (by omega) (by omega)), e_rem (by omega) (by omega) (by omega), Option.bind_some]
      dsimp only
      obtain ⟨e, rfl⟩ : ∃ e, d = e + 1 := ⟨d - 1, by omega⟩
      have l1 : a % (e + 1) < e + 1 := Nat.mod_lt _ (by omega)
      have l2 : b % (e + 1) < e + 1 := Nat.mod_lt _ (by omega)
      have next : ¬ (a % (e + 1) = 0 ∧ b % (e + 1) = 0) → f_X1_commonDivisor_2 n (nI a) (nI b) (nI (e + 1) + (-1)) w = some (nI (Nat.gcd a b), w) := by
        intro c
        rw [pk_m1]
        refine ih e ?_ (by omega) (by omega)
        rcases Nat.lt_or_ge e (Nat.gcd a b) with q | q
        · exfalso
          have eg : Nat.gcd a b = e + 1 := by omega
          apply c
          have d1 := Nat.gcd_dvd_left a b
          have d2 := Nat.gcd_dvd_right a b
          rw [eg] at d1 d2
          exact ⟨Nat.mod_eq_zero_of_dvd d1, Nat.mod_eq_zero_of_dvd d2⟩
        · exact q
      by_cases c1 : a % (e + 1) = 0
      · rw [if_pos (by rw [c1]; rfl), e_rem (by omega) (by omega) (by omega), Option.bind_some]
        dsimp only
        by_cases c2 : b % (e + 1) = 0
        · rw [if_pos (by rw [c2]; rfl)]
          have : e + 1 ≤ Nat.gcd a b := Nat.le_of_dvd g1 (Nat.dvd_gcd (Nat.dvd_of_mod_eq_zero c1) (Nat.dvd_of_mod_eq_zero c2))
          rw [show Nat.gcd a b = e + 1 by omega]
        · rw [if_neg (nI_ne0 (show 0 < b % (e + 1) by omega) (by omega))]
          exact next (fun z => c2 z.2)
      · rw [if_neg (nI_ne0 (show 0 < a % (e + 1) by omega) (by omega))]
        exact next (fun z => c1 z.1)
theorem m_divisor_4 (w : Wd) : ∀ (n p q : Nat), p ≤ 1000 → q ≤ 1000 → q < n → f_X10_divisor_4 n (nI p) (nI q) w = some (nI (Nat.gcd p q), w) := by
  intro n
  induction n with
  | zero => intro p q _ _ h; omega
  | succ n ih =>
    intro p q hp hq hn
    rw [f_X10_divisor_4]
    by_cases h0 : q = 0
    · subst h0
      rw [if_pos (show nI 0 = 0 from rfl), Nat.gcd_zero_right]
    · have hz : ¬ nI q = 0 := nI_ne0 (by omega) (by omega)
      have hm : p % q < q := Nat.mod_lt _ (by omega)
      rw [if_neg hz, if_neg hz, show jrem (nI p) (nI q) = nI (p % q) from pk_rem (by omega) (by omega) (by omega), ih q (p % q) hq (by omega) (by omega)]
      rw [Nat.gcd_comm p q, Nat.gcd_rec q p, Nat.gcd_comm (p % q) q]
def odA (w : Wd) (d : Nat) : Nat := fb_ct (fun r => ofB w r d) d
def odX (w : Wd) (z : Bool) (d : Nat) : Int32 := if z then nI (d / Nat.gcd (odA w d) d) else nI (odA w d / Nat.gcd (odA w d) d)
theorem e_odds_16 {w : Wd} (h : Rel w) (z : Bool) {d : Nat} (hd1 : 1 ≤ d) (hd : d ≤ 20) : ∀ (n i : Nat), i ≤ d → d - i < n → f_X1_oddsPart_16 n (b2i z) (nI d) (nI (fb_ct (fun r => ofB w r d) i)) (nI i) w = some (odX w z d, w) := by
  intro n
  induction n with
  | zero => intro i _ h; omega
  | succ n ih =>
    intro i hi hn
    rw [f_X1_oddsPart_16]
    by_cases hid : i = d
    · subst hid
      have l1 : odA w i ≤ i := fb_ct_le _ i
      have g1 : 1 ≤ Nat.gcd (odA w i) i := Nat.gcd_pos_of_pos_right _ hd1
      have g2 : Nat.gcd (odA w i) i ≤ i := Nat.le_of_dvd hd1 (Nat.gcd_dvd_right _ _)
      rw [if_pos (nI_le (Nat.le_refl i) (by omega))]
      unfold f_X1_commonDivisor odX
      rw [show fb_ct (fun r => ofB w r i) i = odA w i from rfl, e_common_2 (by omega) (by omega) hd1 w fu i g2 (by omega) (Nat.lt_of_le_of_lt hd (by decide)), Option.bind_some]
      dsimp only
      rw [if_pos (show (1 : Int32) ≤ nI (Nat.gcd (odA w i) i) from nI_le (a := 1) g1 (by omega)), if_neg (nI_ne0 g1 (by omega)), if_neg (nI_ne0 g1 (by omega)), pk_div (by omega) g1 (by omega), pk_div (by omega) g1 (by omega)]
      cases z <;> rfl
    · have i1 := ih (i + 1) (by omega) (by omega)
      rw [if_neg (nI_ge (by omega) (by omega)), e_wouldDo h (by omega) (by omega), Option.bind_some]
      dsimp only
      rw [p1]
      rw [ct_s] at i1
      cases hb : ofB w i d with
      | false =>
        rw [if_pos bz]
        rw [hb, b2i_f, show nI (fb_ct (fun r => ofB w r d) i) + 0 = nI (fb_ct (fun r => ofB w r d) i) from nI_add _ 0] at i1
        exact i1
      | true =>
        rw [if_neg bnz]
        rw [hb, b2i_t] at i1
        exact i1
theorem m_odds_50 {w : Wd} (h : Rel w) (z : Bool) {d : Nat} (hd1 : 1 ≤ d) (hd : d ≤ 20) : ∀ (n i : Nat), i ≤ d → d - i < n → f_X10_odds_50 n (b2i z) (nI d) (nI (fb_ct (fun r => ofB w r d) i)) (nI i) w = some (odX w z d, w) := by
  intro n
  induction n with
  | zero => intro i _ h; omega
  | succ n ih =>
    intro i hi hn
    rw [f_X10_odds_50]
    by_cases hid : i = d
    · subst hid
      have l1 : odA w i ≤ i := fb_ct_le _ i
      have g1 : 1 ≤ Nat.gcd (odA w i) i := Nat.gcd_pos_of_pos_right _ hd1
      have g2 : Nat.gcd (odA w i) i ≤ i := Nat.le_of_dvd hd1 (Nat.gcd_dvd_right _ _)
      rw [if_pos (nI_le (Nat.le_refl i) (by omega))]
      unfold f_X10_divisor odX
      rw [show fb_ct (fun r => ofB w r i) i = odA w i from rfl, m_divisor_4 w fu _ _ (by omega) (by omega) (Nat.lt_of_le_of_lt hd (by decide)), Option.bind_some]
      dsimp only
      rw [if_neg (nI_ne0 g1 (by omega)), if_neg (nI_ne0 g1 (by omega)), pk_div (by omega) g1 (by omega), pk_div (by omega) g1 (by omega)]
      cases z <;> rfl
    · have i1 := ih (i + 1) (by omega) (by omega)
      rw [if_neg (nI_ge (by omega) (by omega)), m_isOff h (by omega) (by omega), Option.bind_some]
      dsimp only
      rw [p1]
      rw [ct_s] at i1
      cases hb : ofB w i d with
      | false =>
        rw [if_pos bz]
        rw [hb, b2i_f] at i1
        exact i1
      | true =>
        rw [if_neg bnz]
        rw [hb, b2i_t] at i1
        exact i1
theorem op_odds (p q r : Int32) {w : Wd} (h : Rel w) : Agree (f_X9_odds p q r) (f_X10_odds p q r) w := by
  unfold Agree f_X9_odds f_X10_odds
  rw [e_isPair, Option.bind_some]
  dsimp only
  cases ht : twB w p q with
  | false =>
    refine ⟨-2, w, w, by rw [if_pos bz], ?_, h⟩
    rw [m_areTwo h.told, Option.bind_some, ht]; rfl
  | true =>
    rw [if_neg bnz, e_within, Option.bind_some]
    dsimp only
    cases hr : wi r 0 1 with
    | false =>
      refine ⟨-3, w, w, by rw [if_pos bz], ?_, h⟩
      rw [m_areTwo h.told, Option.bind_some, ht, if_neg bnz, e_in, Option.bind_some, hr]; rfl
    | true =>
      obtain ⟨z, rfl⟩ := wi01 hr
      obtain ⟨a, b, ha, hb, rfl, rfl, ta, tb, hne⟩ := twB_nI ht
      rw [if_neg bnz, e_joined h ha hb ta tb, Option.bind_some]
      dsimp only
      cases hj : jn w a b with
      | false =>
        refine ⟨-4, w, w, by rw [if_pos bz], ?_, h⟩
        rw [m_areTwo h.told, Option.bind_some, ht, if_neg bnz, e_in, Option.bind_some, hr, if_neg bnz, m_joined h ha hb ta tb, Option.bind_some, hj]; rfl
      | true =>
        obtain ⟨ew, w1, w2⟩ := h.wid ha ta
        refine ⟨odX w z (wdN w a), w, w, ?_, ?_, h⟩
        · unfold f_X1_oddsPart
          rw [if_neg bnz, show f_X0_part (nI a) 4 w = _ from e_part (k := 4) ha (by decide) w, Option.bind_some]
          dsimp only
          rw [ew, show f_X1_oddsPart_16 fu (b2i z) (nI (wdN w a)) 0 0 w = _ from e_odds_16 h z w1 w2 fu 0 (by omega) (Nat.lt_of_le_of_lt (show wdN w a - 0 ≤ 20 by omega) (by decide)), Option.bind_some]
        · rw [m_areTwo h.told, Option.bind_some, ht, if_neg bnz, e_in, Option.bind_some, hr, if_neg bnz, m_joined h ha hb ta tb, Option.bind_some, hj, if_neg bnz, show f_X10_of (nI a) 2 w = _ from m_of (k := 2) ha (by decide) w, Option.bind_some]
          dsimp only
          rw [h.of ha (by decide), show 9 * a + (2 + 2) = 9 * a + 4 by omega, ew]
          exact m_odds_50 h z w1 w2 fu 0 (by omega) (Nat.lt_of_le_of_lt (show wdN w a - 0 ≤ 20 by omega) (by decide))
