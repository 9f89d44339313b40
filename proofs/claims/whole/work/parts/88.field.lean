/-! fields -/
theorem bt_1s {b : Nat} (hb : b < 32) {i : Nat} (hi : i < 32) : bt (jshl 1 (nI b)) i = decide (i = b) := by
  have := bt_one 0 hb hi
  rw [b_or, b_0, Bool.false_or, Bool.false_or] at this
  exact this
def s8 (s : Int32) : Prop := ∀ i, i < 32 → bt s i = true → i < 8
theorem rcS_up {w : Wd} {s : Int32} {p i : Nat} (h : bt s i = true) : bt (rcS w s p) i = true := by
  unfold rcS
  split
  · rw [b_or, h, Bool.true_or]
  · exact h
theorem rP_up {w : Wd} {s : Int32} {i : Nat} (h : bt s i = true) : ∀ p, bt (rP w s p) i = true
  | 0 => h
  | p + 1 => rcS_up (rP_up h p)
theorem rP_up2 {w : Wd} {s : Int32} {i p : Nat} (h : bt (rP w s p) i = true) : ∀ q, bt (rP w s (p + q)) i = true
  | 0 => h
  | q + 1 => rcS_up (rP_up2 h q)
theorem rA_up {w : Wd} {s : Int32} {i : Nat} (h : bt s i = true) : ∀ k, bt (rA w s k) i = true
  | 0 => h
  | k + 1 => rP_up (rA_up h k) 8
theorem rP_least {w : Wd} {T : Nat → Prop} (hT : ∀ a b, a < 8 → b < 8 → T a → lk w a b = true → T b) {s : Int32} (h8 : s8 s) (hs : ∀ i, i < 32 → bt s i = true → T i) : ∀ p, p ≤ 8 → s8 (rP w s p) ∧ ∀ i, i < 32 → bt (rP w s p) i = true → T i
  | 0, _ => ⟨h8, hs⟩
  | p + 1, hp => by
    obtain ⟨i8, ih⟩ := rP_least hT h8 hs p (by omega)
    rw [rP]
    unfold rcS
    by_cases hb : bt (rP w s p) p = true
    · rw [if_pos hb]
      constructor
      · intro i hi h
        rw [b_or, bt_lkR w p hi, Bool.or_eq_true] at h
        rcases h with h | h
        · exact i8 i hi h
        · simp only [Bool.and_eq_true, decide_eq_true_eq] at h
          exact h.1
      · intro i hi h
        rw [b_or, bt_lkR w p hi, Bool.or_eq_true] at h
        rcases h with h | h
        · exact ih i hi h
        · simp only [Bool.and_eq_true, decide_eq_true_eq] at h
          exact hT p i (by omega) h.1 (ih p (by omega) hb) h.2
    · rw [if_neg hb]
      exact ⟨i8, ih⟩
theorem rA_least {w : Wd} {T : Nat → Prop} (hT : ∀ a b, a < 8 → b < 8 → T a → lk w a b = true → T b) {s : Int32} (h8 : s8 s) (hs : ∀ i, i < 32 → bt s i = true → T i) : ∀ k, s8 (rA w s k) ∧ ∀ i, i < 32 → bt (rA w s k) i = true → T i
  | 0 => ⟨h8, hs⟩
  | k + 1 => by
    obtain ⟨a, b⟩ := rA_least hT h8 hs k
    exact rP_least hT a b 8 (Nat.le_refl _)
theorem rP_8 {w : Wd} {s : Int32} (h8 : s8 s) {p : Nat} (hp : p ≤ 8) : s8 (rP w s p) := (rP_least (w := w) (T := fun _ => True) (fun _ _ _ _ _ _ => trivial) h8 (fun _ _ _ => trivial) p hp).1
theorem rA_8 {w : Wd} {s : Int32} (h8 : s8 s) (k : Nat) : s8 (rA w s k) := (rA_least (w := w) (T := fun _ => True) (fun _ _ _ _ _ _ => trivial) h8 (fun _ _ _ => trivial) k).1
theorem s8_ext {s t : Int32} (hs : s8 s) (ht : s8 t) (h : ∀ i, i < 8 → bt s i = bt t i) : s = t := by
  apply b_ext
  intro i hi
  by_cases h8 : i < 8
  · exact h i h8
  · have a : bt s i = false := by
      cases e : bt s i with
      | false => rfl
      | true => exact absurd (hs i hi e) h8
    have b : bt t i = false := by
      cases e : bt t i with
      | false => rfl
      | true => exact absurd (ht i hi e) h8
    rw [a, b]
theorem rA_st {w : Wd} {s : Int32} {j : Nat} (h : rP w (rA w s j) 8 = rA w s j) : ∀ n, rA w s (j + n) = rA w s j
  | 0 => rfl
  | n + 1 => by
    show rP w (rA w s (j + n)) 8 = _
    rw [rA_st h n, h]
/-- behind eight turns nothing comes -/
theorem rA_fix {w : Wd} {s : Int32} (h8 : s8 s) (h1 : ∃ i, i < 8 ∧ bt s i = true) : rP w (rA w s 8) 8 = rA w s 8 := by
  have C : ∀ k, (∃ j, j < k ∧ rP w (rA w s j) 8 = rA w s j) ∨ k + 1 ≤ fb_ct (fun i => bt (rA w s k) i) 8 := by
    intro k
    induction k with
    | zero =>
      right
      exact (fb_ct_pos (p := fun i => bt s i) (n := 8)).mpr h1
    | succ k ih =>
      rcases ih with ⟨j, hj, h⟩ | h
      · exact Or.inl ⟨j, by omega, h⟩
      · by_cases hs : rP w (rA w s k) 8 = rA w s k
        · exact Or.inl ⟨k, by omega, hs⟩
        · right
          apply Classical.byContradiction
          intro hlt
          apply hs
          refine s8_ext (rP_8 (rA_8 h8 k) (Nat.le_refl _)) (rA_8 h8 k) (fun i hi => ?_)
          exact ct_eq (p := fun i => bt (rA w s k) i) (q := fun i => bt (rP w (rA w s k) 8) i) (n := 8) (fun i _ hi => rP_up hi 8) (by
            have : fb_ct (fun i => bt (rP w (rA w s k) 8) i) 8 = fb_ct (fun i => bt (rA w s (k + 1)) i) 8 := rfl
            omega) i hi
  rcases C 8 with ⟨j, hj, h⟩ | h
  · have := rA_st h (8 - j)
    rw [show j + (8 - j) = 8 by omega] at this
    rw [this, h]
  · have := fb_ct_le (fun i => bt (rA w s 8) i) 8
    omega
theorem s8_1 {b : Nat} (hb : b < 8) : s8 (jshl 1 (nI b)) := by
  intro i hi h
  rw [bt_1s (by omega) hi, decide_eq_true_eq] at h
  omega
theorem rF_self {w : Wd} {b : Nat} (hb : b < 8) : bt (rF w b) b = true := rA_up (by rw [bt_1s (by omega) (by omega), decide_eq_true_eq]) 8
theorem rF_8 {w : Wd} {b : Nat} (hb : b < 8) : s8 (rF w b) := rA_8 (s8_1 hb) 8
theorem rF_closed {w : Wd} {b : Nat} (hb : b < 8) {p q : Nat} (hp : p < 8) (hq : q < 8) (h : bt (rF w b) p = true) (hl : lk w p q = true) : bt (rF w b) q = true := by
  have fx : rP w (rF w b) 8 = rF w b := rA_fix (s8_1 hb) ⟨b, hb, by rw [bt_1s (by omega) (by omega), decide_eq_true_eq]⟩
  have h1 : bt (rP w (rF w b) p) p = true := rP_up h p
  have h2 : bt (rP w (rF w b) (p + 1)) q = true := by
    rw [rP]
    unfold rcS
    rw [if_pos h1, b_or, bt_lkR w p (by omega), decide_eq_true hq, hl, Bool.and_true, Bool.or_true]
  have h3 := rP_up2 h2 (7 - p)
  rw [show p + 1 + (7 - p) = 8 by omega, fx] at h3
  exact h3
theorem rF_least {w : Wd} {b : Nat} (hb : b < 8) {T : Nat → Prop} (hT : ∀ a c, a < 8 → c < 8 → T a → lk w a c = true → T c) (h0 : T b) {i : Nat} (hi : i < 8) (h : bt (rF w b) i = true) : T i := (rA_least hT (s8_1 hb) (fun j hj hj2 => by
    rw [bt_1s (by omega) hj, decide_eq_true_eq] at hj2
    rw [hj2]; exact h0) 8).2 i (by omega) h
theorem rF_told {w : Wd} {b : Nat} (hb : b < 8) (tb : bt (w.1 5 0) b = true) {i : Nat} (hi : i < 8) (h : bt (rF w b) i = true) : bt (w.1 5 0) i = true := rF_least hb (T := fun i => bt (w.1 5 0) i = true) (fun a c ha hc _ hl => (lk_ne ha hc hl).2.2.1) tb hi h
/-- joined both ways -/
theorem jn_sym {w : Wd} {a b : Nat} (h : jn w a b = true) : jn w b a = true := by
  have hw := alk_wy h
  unfold jn at h ⊢
  simp only [Bool.and_eq_true, decide_eq_true_eq] at h ⊢
  obtain ⟨h2, h4, h6, h7, ⟨g1, g2⟩, g3, g4⟩ := h
  have sy : ∀ k, ybI w b a k = ybI w a b k := by
    intro k
    unfold ybI mxI mnI
    split <;> split <;> split <;> split <;> omega
  have al : ∀ k, alk w a b k = true → alk w b a k = true := by
    intro k e
    unfold alk at e ⊢
    rw [decide_eq_true_eq] at e ⊢
    exact e.symm
  rw [← hw, sy, sy]
  refine ⟨al 2 h2, al 4 h4, al 6 h6, al 7 h7, ⟨g1, g2⟩, g3, ?_⟩
  unfold jnl dfN at g4 ⊢
  rw [← hw]
  have e4 : wdN w b = wdN w a := by
    unfold alk at h4
    rw [decide_eq_true_eq] at h4
    unfold wdN
    rw [h4]
  rw [e4, show (bxI w b (1 - wy w a) - bxI w a (1 - wy w a)).natAbs = (bxI w a (1 - wy w a) - bxI w b (1 - wy w a)).natAbs by omega]
  exact g4
theorem lk_sym {w : Wd} {a b : Nat} (ha : a < 8) (hb : b < 8) (h : lk w a b = true) : lk w b a = true := by
  obtain ⟨n, ta, tb, hj⟩ := lk_ne ha hb h
  unfold lk
  rw [tw_nI w hb ha, ta, tb, jn_sym hj, decide_eq_true n.symm]; rfl
theorem rF_sub {w : Wd} {b c : Nat} (hb : b < 8) (hc : c < 8) (h : bt (rF w b) c = true) {i : Nat} (hi : i < 8) (h2 : bt (rF w c) i = true) : bt (rF w b) i = true := rF_least hc (T := fun i => bt (rF w b) i = true) (fun a d ha hd ht hl => rF_closed hb ha hd ht hl) h hi h2
theorem rF_sym {w : Wd} {b c : Nat} (hb : b < 8) (hc : c < 8) (h : bt (rF w b) c = true) : bt (rF w c) b = true := by
  refine rF_least hb (T := fun x => x < 8 → bt (rF w x) b = true) (fun x y hx hy hT hl => ?_) (fun hb => rF_self hb) hc h hc
  intro _
  have h1 : bt (rF w y) x = true := rF_closed hy hy hx (rF_self hy) (lk_sym hx hy hl)
  exact rF_sub hy hx h1 hb (hT hx)
/-- the first of its field -/
def mnB (w : Wd) (b : Nat) : Bool := decide (rF w b &&& (jshl 1 (nI b) - 1) = 0)
theorem low_bits : ∀ b, b < 8 → ∀ i, i < 32 → bt (jshl 1 (nI b) - 1) i = decide (i < b) := by decide +kernel
theorem mnB_iff {w : Wd} {b : Nat} (hb : b < 8) : mnB w b = true ↔ ∀ c, c < b → bt (rF w b) c = false := by
  unfold mnB
  rw [decide_eq_true_eq]
  constructor
  · intro h c hc
    have : bt (rF w b &&& (jshl 1 (nI b) - 1)) c = false := by rw [h, b_0]
    rw [b_and, low_bits b hb c (by omega), decide_eq_true hc, Bool.and_true] at this
    exact this
  · intro h
    apply b_ext
    intro i hi
    rw [b_and, low_bits b hb i hi, b_0]
    by_cases c : i < b
    · rw [h i c, Bool.false_and]
    · rw [decide_eq_false c, Bool.and_false]
def fdN (w : Wd) (i : Nat) : Nat := fb_ct (fun b => bt (w.1 5 0) b && mnB w b) i
theorem e_hmf_10 {w v : Wd} (r : ∀ a, a < 8 → v.1 18 a = lkR w a) (e5 : v.1 5 0 = w.1 5 0) : ∀ (n i : Nat) (kn : Int32), i ≤ 8 → 8 - i < n → (∀ x, x < 8 → (bt kn x = true ↔ ∃ c, c < i ∧ bt (w.1 5 0) c = true ∧ mnB w c = true ∧ bt (rF w c) x = true)) → f_X1_howManyFields_10 n (nI (fdN w i)) kn (nI i) v = some (nI (fdN w 8), v) := by
  intro n
  induction n with
  | zero => intro i _ _ h; omega
  | succ n ih =>
    intro i kn hi hn hk
    rw [f_X1_howManyFields_10]
    by_cases h8 : i = 8
    · subst h8
      rw [if_pos (by decide)]
    · have hi8 : i < 8 := by omega
      rw [if_neg (n8 hi8), e_isBundle, Option.bind_some, e5]
      dsimp only
      rw [show isT 7 (w.1 5 0) (nI i) = bt (w.1 5 0) i from nI_isT (n := 7) (by omega) (by decide)]
      have st : fdN w (i + 1) = fdN w i + (if bt (w.1 5 0) i && mnB w i then 1 else 0) := fb_ct_succ _ _
      have no : (bt (w.1 5 0) i && mnB w i) = false → f_X1_howManyFields_10 n (nI (fdN w i)) kn (nI (i + 1)) v = some (nI (fdN w 8), v) := by
        intro e
        have i1 := ih (i + 1) kn (by omega) (by omega) (fun x hx => by
          rw [hk x hx]
          constructor
          · rintro ⟨c, hc, q⟩; exact ⟨c, by omega, q⟩
          · rintro ⟨c, hc, q1, q2, q3⟩
            by_cases ec : c = i
            · subst ec; rw [q1, q2] at e; cases e
            · exact ⟨c, by omega, q1, q2, q3⟩)
        rw [st, e, if_neg (by decide), Nat.add_zero] at i1
        exact i1
      rw [p1]
      cases ti : bt (w.1 5 0) i with
      | false =>
        rw [if_pos bz]
        exact no (by rw [ti, Bool.false_and])
      | true =>
        rw [if_neg bnz, e_has _ (by omega), Option.bind_some]
        dsimp only
        cases hb : bt kn i with
        | true =>
          rw [if_neg bnz]
          refine no ?_
          obtain ⟨c, hc, q1, q2, q3⟩ := (hk i hi8).mp hb
          rw [ti, Bool.true_and]
          cases hm : mnB w i with
          | false => rfl
          | true =>
            have := (mnB_iff hi8).mp hm c hc
            rw [rF_sym (by omega) hi8 q3] at this
            cases this
        | false =>
          rw [if_pos bz, e_reach r, Option.bind_some]
          dsimp only
          have hm : mnB w i = true := by
            rw [mnB_iff hi8]
            intro c hc
            cases e : bt (rF w i) c with
            | false => rfl
            | true =>
              exfalso
              have m1 : fa_first (fun x => bt (rF w i) x) 8 ≤ c := fst_lt (by omega) e
              have m2 : bt (rF w i) (fa_first (fun x => bt (rF w i) x) 8) = true := fa_first_yes (fun x => bt (rF w i) x) 8 (by omega)
              have m3 := fa_first_no (fun x => bt (rF w i) x) 8
              generalize fa_first (fun x => bt (rF w i) x) 8 = m at m1 m2 m3
              have hm8 : m < 8 := by omega
              have : bt kn i = true := (hk i hi8).mpr ⟨m, by omega, rF_told hi8 ti hm8 m2, (mnB_iff hm8).mpr (fun d hd => by
                cases e2 : bt (rF w m) d with
                | false => rfl
                | true =>
                  have := rF_sub hi8 hm8 m2 (show d < 8 by omega) e2
                  have h3 := m3 d hd
                  rw [this] at h3; cases h3), rF_sym hi8 hm8 m2⟩
              rw [hb] at this; cases this
          have i1 := ih (i + 1) (kn ||| rF w i) (by omega) (by omega) (fun x hx => by
            rw [b_or, Bool.or_eq_true, hk x hx]
            constructor
            · rintro (⟨c, hc, q⟩ | q)
              · exact ⟨c, by omega, q⟩
              · exact ⟨i, by omega, ti, hm, q⟩
            · rintro ⟨c, hc, q1, q2, q3⟩
              by_cases ec : c = i
              · subst ec; exact Or.inr q3
              · exact Or.inl ⟨c, by omega, q1, q2, q3⟩)
          rw [st, ti, hm, Bool.and_true, if_pos rfl, ← p1] at i1
          exact i1
theorem m_fields_4 {w : Wd} (h : Rel w) : ∀ (n i : Nat), i ≤ 8 → 8 - i < n → f_X10_fields_4 n (nI (fdN w i)) (nI i) w = some (nI (fdN w 8), w) := by
  intro n
  induction n with
  | zero => intro i _ h; omega
  | succ n ih =>
    intro i hi hn
    rw [f_X10_fields_4]
    by_cases h8 : i = 8
    · subst h8
      rw [if_pos (by decide)]
    · have hi8 : i < 8 := by omega
      have i1 := ih (i + 1) (by omega) (by omega)
      have st : fdN w (i + 1) = fdN w i + (if bt (w.1 5 0) i && mnB w i then 1 else 0) := fb_ct_succ _ _
      rw [st] at i1
      unfold f_X10_fields_37
      rw [if_neg (n8 hi8), m_isBundle, Option.bind_some, h.told]
      dsimp only
      rw [show isT 7 (w.1 5 0) (nI i) = bt (w.1 5 0) i from nI_isT (n := 7) (by omega) (by decide), p1, show nI (fdN w i) + 0 = nI (fdN w i) from nI_add _ 0]
      cases ti : bt (w.1 5 0) i with
      | false =>
        rw [if_pos bz]
        rw [ti, Bool.false_and, if_neg (by decide), Nat.add_zero] at i1
        exact i1
      | true =>
        rw [if_neg bnz, m_fieldOf h, Option.bind_some]
        dsimp only
        rw [ti, Bool.true_and] at i1
        by_cases c : rF w i &&& (jshl 1 (nI i) - 1) = 0
        · rw [if_pos c, p1]
          rw [show mnB w i = true from decide_eq_true c, if_pos rfl] at i1
          exact i1
        · rw [if_neg c]
          rw [show mnB w i = false from decide_eq_false c, if_neg (by decide), Nat.add_zero] at i1
          exact i1
theorem fdN_sim {w v : Wd} (s : sim w v) (i : Nat) : fdN v i = fdN w i := by
  unfold fdN mnB
  rw [rF_sim s, s 5 0 rfl]
theorem op_fields {w : Wd} (h : Rel w) : Agree f_X9_fields f_X10_fields w := by
  refine Agree.ask (a := nI (fdN w 8)) h ⟨wLk w, ?_, wLk_sim w⟩ (fun u hu s => ⟨u, ?_, sim.rf u⟩)
  · unfold f_X9_fields f_X1_howManyFields
    rw [e_linkAll h, Option.bind_some, show f_X1_howManyFields_10 fu 0 0 0 (wLk w) = some (nI (fdN w 8), wLk w) from e_hmf_10 (w := w) (fun a ha => wLk_at w ha) (wLk_sim w 5 0 rfl) fu 0 0 (by decide) (by decide) (fun x hx => by
      rw [b_0]
      constructor
      · intro z; cases z
      · rintro ⟨c, hc, -⟩; omega), Option.bind_some]
  · unfold f_X10_fields
    rw [← fdN_sim s]
    exact m_fields_4 hu fu 0 (by decide) (by decide)
/-- acres, and the first year -/
def syX (w : Wd) (s : Int32) : Nat → Int32
  | 0 => 0
  | i + 1 => if bt s i then syX w s i + w.1 37 i * w.1 38 i else syX w s i
def fyX (w : Wd) (s : Int32) : Nat → Int32
  | 0 => 2000
  | i + 1 => if bt s i then jmin (fyX w s i) (tI (yL w i)) else fyX w s i
theorem e_yardsOf_4 {w v : Wd} (h : Rel w) (e6 : v.1 6 = w.1 6) {s : Int32} (hs : ∀ i, i < 8 → bt s i = true → bt (w.1 5 0) i = true) : ∀ (n i : Nat), i ≤ 8 → 8 - i < n → f_X1_yardsOf_4 n s (syX w s i) (nI i) v = some (syX w s 8, v) := by
  intro n
  induction n with
  | zero => intro i _ h; omega
  | succ n ih =>
    intro i hi hn
    rw [f_X1_yardsOf_4]
    by_cases h8 : i = 8
    · subst h8
      rw [if_pos (by decide)]
    · have hi8 : i < 8 := by omega
      have i1 := ih (i + 1) (by omega) (by omega)
      rw [if_neg (n8 hi8), e_has _ (by omega), Option.bind_some, p1]
      dsimp only
      rw [syX] at i1
      cases hb : bt s i with
      | false =>
        rw [if_pos bz]
        rw [hb, if_neg (by decide)] at i1
        exact i1
      | true =>
        rw [if_neg bnz, e_yards hi8, Option.bind_some, e6, h.yards hi8 (hs i hi8 hb)]
        dsimp only
        rw [hb, if_pos rfl] at i1
        exact i1
theorem e_first_18 {w v : Wd} (r : ∀ t, t < 14 → v.1 13 t = tI (yL w t) ∧ v.1 14 t = tI (yH w t)) {s : Int32} : ∀ (n i : Nat), i ≤ 8 → 8 - i < n → f_X1_firstYearOf_18 n s (fyX w s i) (nI i) v = some (fyX w s 8, v) := by
  intro n
  induction n with
  | zero => intro i _ h; omega
  | succ n ih =>
    intro i hi hn
    rw [f_X1_firstYearOf_18]
    by_cases h8 : i = 8
    · subst h8
      rw [if_pos (by decide)]
    · have hi8 : i < 8 := by omega
      have i1 := ih (i + 1) (by omega) (by omega)
      rw [if_neg (n8 hi8), e_has _ (by omega), Option.bind_some, p1]
      dsimp only
      rw [fyX] at i1
      cases hb : bt s i with
      | false =>
        rw [if_pos bz]
        rw [hb, if_neg (by decide)] at i1
        exact i1
      | true =>
        rw [if_neg bnz, e_earliest (by omega), Option.bind_some, (r i (by omega)).1]
        dsimp only
        rw [hb, if_pos rfl] at i1
        exact i1
theorem m_field_60a {w v : Wd} (e37 : v.1 37 = w.1 37) (e38 : v.1 38 = w.1 38) {s : Int32} : ∀ (n i : Nat) (x5 : Int32), i ≤ 8 → 8 - i < n → f_X10_field_60 n 1 s (syX w s i) x5 (nI i) v = some (syX w s 8, v) := by
  intro n
  induction n with
  | zero => intro i _ _ h; omega
  | succ n ih =>
    intro i x5 hi hn
    rw [f_X10_field_60]
    by_cases h8 : i = 8
    · subst h8
      rw [if_pos (by decide), if_pos rfl]
    · have hi8 : i < 8 := by omega
      have i1 := fun x => ih (i + 1) x (by omega) (by omega)
      rw [if_neg (n8 hi8), bit1 _ (by omega), p1]
      rw [syX] at i1
      cases hb : bt s i with
      | false =>
        rw [if_neg (by decide)]
        rw [hb, if_neg (by decide)] at i1
        exact i1 x5
      | true =>
        rw [if_pos (show b2i true = 1 from rfl), m_yards (by omega), Option.bind_some, e37, e38]
        dsimp only
        rw [inB_nI (by omega) (by decide), if_pos rfl, if_pos rfl]
        rw [hb, if_pos rfl] at i1
        split
        · exact i1 _
        · exact i1 _
theorem m_field_60b {w v : Wd} (r : yRow w v) {s : Int32} (hs : ∀ i, i < 8 → bt s i = true → bt (w.1 5 0) i = true) : ∀ (n i : Nat) (x4 : Int32), i ≤ 8 → 8 - i < n → f_X10_field_60 n 2 s x4 (fyX w s i) (nI i) v = some (fyX w s 8, v) := by
  intro n
  induction n with
  | zero => intro i _ _ h; omega
  | succ n ih =>
    intro i x4 hi hn
    rw [f_X10_field_60]
    by_cases h8 : i = 8
    · subst h8
      rw [if_pos (by decide), if_neg (by decide)]
    · have hi8 : i < 8 := by omega
      have i1 := fun x => ih (i + 1) x (by omega) (by omega)
      rw [if_neg (n8 hi8), bit1 _ (by omega), p1]
      rw [fyX] at i1
      cases hb : bt s i with
      | false =>
        rw [if_neg (by decide)]
        rw [hb, if_neg (by decide)] at i1
        exact i1 x4
      | true =>
        rw [if_pos (show b2i true = 1 from rfl), m_yards (by omega), Option.bind_some]
        dsimp only
        rw [inB_nI (by omega) (by decide), if_pos rfl, if_pos rfl, ix_nI (by omega), (r i (by omega) (hs i hi8 hb)).1]
        rw [hb, if_pos rfl, ← mn_le] at i1
        by_cases c : fyX w s i ≤ tI (yL w i)
        · rw [if_pos c] at i1 ⊢
          exact i1 _
        · rw [if_neg c] at i1 ⊢
          exact i1 _
theorem syX_sim {w v : Wd} (s : sim w v) (x : Int32) : ∀ i, syX v x i = syX w x i
  | 0 => rfl
  | i + 1 => by rw [syX, syX, syX_sim s x i, s.row 37 (fun _ => rfl), s.row 38 (fun _ => rfl)]
theorem fyX_sim {w v : Wd} (s : sim w v) (x : Int32) : ∀ i, fyX v x i = fyX w x i
  | 0 => rfl
  | i + 1 => by rw [fyX, fyX, fyX_sim s x i, yL_sim s]
def fdX (w : Wd) (b j : Nat) : Int32 := if j = 0 then rF w b else if j = 1 then syX w (rF w b) 8 else if yOK w then fyX w (rF w b) 8 else -1
theorem fdX_2 (w : Wd) (b : Nat) : fdX w b 2 = if yOK w = true then fyX w (rF w b) 8 else -1 := by
  unfold fdX
  rw [if_neg (show ¬ (2 : Nat) = 0 by decide), if_neg (show ¬ (2 : Nat) = 1 by decide)]
theorem op_field (p q : Int32) {w : Wd} (h : Rel w) : Agree (f_X9_field p q) (f_X10_field p q) w := by
  cases h1 : isT 7 (w.1 5 0) p with
  | false =>
    refine ⟨-2, w, w, ?_, ?_, h⟩
    · unfold f_X9_field; rw [e_isBundle, Option.bind_some, h1]; rfl
    · unfold f_X10_field; rw [m_isBundle, Option.bind_some, h.told, h1]; rfl
  | true =>
    cases h2 : wi q 0 2 with
    | false =>
      refine ⟨-3, w, w, ?_, ?_, h⟩
      · unfold f_X9_field; rw [e_isBundle, Option.bind_some, h1, e_within, if_neg bnz, Option.bind_some]; dsimp only; rw [h2]; rfl
      · unfold f_X10_field; rw [m_isBundle, Option.bind_some, h.told, h1, e_in, if_neg bnz, Option.bind_some]; dsimp only; rw [h2]; rfl
    | true =>
      obtain ⟨b, hb, rfl, tb⟩ := isT_nI (n := 7) (by decide) h1
      obtain ⟨j, hj, rfl⟩ := wi_nI (n := 2) (by decide) h2
      have hb8 : b < 8 := by omega
      have mt : ∀ i, i < 8 → bt (rF w b) i = true → bt (w.1 5 0) i = true := fun i hi hh => rF_told hb8 tb hi hh
      have sL := wLk_sim w
      obtain ⟨v, e1, s1, r1⟩ := e_settle (h.sim sL)
      refine Agree.ask (a := fdX w b j) h ?_ (fun u hu s => ?_)
      · unfold f_X9_field
        rw [e_isBundle, Option.bind_some, h1, e_within, if_neg bnz, Option.bind_some]
        dsimp only
        rw [h2, if_neg bnz, e_members h, Option.bind_some]
        dsimp only
        rcases (by omega : j = 0 ∨ j = 1 ∨ j = 2) with q | q | q <;> subst q
        · rw [if_pos (show nI 0 = 0 from rfl)]
          exact ⟨_, rfl, sL⟩
        · rw [if_neg (by decide), if_pos (show nI 1 = 1 from rfl)]
          unfold f_X1_yardsOf
          rw [show f_X1_yardsOf_4 fu (rF w b) 0 0 (wLk w) = _ from e_yardsOf_4 h (sL.row 6 (fun _ => rfl)) mt fu 0 (by decide) (by decide), Option.bind_some]
          exact ⟨_, rfl, sL⟩
        · rw [if_neg (by decide), if_neg (by decide)]
          unfold f_X1_firstYearOf
          rw [e1, Option.bind_some, yOK_sim sL]
          dsimp only
          rw [yOK_sim sL, yL_sim sL, yH_sim sL] at r1
          simp only [fdX_2]
          cases hy : yOK w with
          | false =>
            rw [if_pos bz, if_neg (by decide)]
            exact ⟨_, rfl, sL.tr s1⟩
          | true =>
            rw [if_neg bnz, if_pos rfl, show f_X1_firstYearOf_18 fu (rF w b) 2000 0 v = _ from e_first_18 (w := w) (r1 hy) fu 0 (by decide) (by decide), Option.bind_some]
            exact ⟨_, rfl, sL.tr s1⟩
      · unfold f_X10_field
        rw [m_isBundle, Option.bind_some, hu.told, s 5 0 rfl, h1, e_in, if_neg bnz, Option.bind_some]
        dsimp only
        rw [h2, if_neg bnz, m_fieldOf hu, Option.bind_some, rF_sim s]
        dsimp only
        unfold f_X10_field_49
        rcases (by omega : j = 0 ∨ j = 1 ∨ j = 2) with q | q | q <;> subst q
        · rw [if_pos (show nI 0 = 0 from rfl)]
          exact ⟨_, rfl, sim.rf u⟩
        · rw [if_neg (by decide), if_neg (by decide)]
          exact ⟨_, m_field_60a (w := w) (s.row 37 (fun _ => rfl)) (s.row 38 (fun _ => rfl)) fu 0 2000 (by decide) (by decide), sim.rf u⟩
        · rw [if_neg (by decide), if_pos (show nI 2 = 2 from rfl)]
          obtain ⟨x, e2, s2, r2⟩ := m_areYears hu
          rw [e2, Option.bind_some, yOK_sim s]
          dsimp only
          rw [yOK_sim s] at r2
          simp only [fdX_2]
          cases hy : yOK w with
          | false =>
            rw [if_pos bz, if_neg (by decide)]
            exact ⟨_, rfl, s2⟩
          | true =>
            rw [if_neg bnz, if_pos rfl]
            exact ⟨_, m_field_60b (w := w) (yRow_sim s (r2 hy)) mt fu 0 0 (by decide) (by decide), s2⟩
