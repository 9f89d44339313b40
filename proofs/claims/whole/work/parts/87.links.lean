/-! fields: links and reach -/
def lk (w : Wd) (a b : Nat) : Bool := twB w (nI a) (nI b) && jn w a b
def lkR (w : Wd) (a : Nat) : Int32 := orS (lk w a) 0 8
theorem tw_nI (w : Wd) {a b : Nat} (ha : a < 8) (hb : b < 8) : twB w (nI a) (nI b) = (bt (w.1 5 0) a && (bt (w.1 5 0) b && decide (a ≠ b))) := by
  unfold twB
  rw [show isT 7 (w.1 5 0) (nI a) = bt (w.1 5 0) a from nI_isT (n := 7) (by omega) (by decide), show isT 7 (w.1 5 0) (nI b) = bt (w.1 5 0) b from nI_isT (n := 7) (by omega) (by decide)]
  congr 2
  rw [decide_eq_decide, Ne, Ne, nI_eq (by omega) (by omega)]
theorem lk_ne {w : Wd} {a b : Nat} (ha : a < 8) (hb : b < 8) (h : lk w a b = true) : a ≠ b ∧ bt (w.1 5 0) a = true ∧ bt (w.1 5 0) b = true ∧ jn w a b = true := by
  unfold lk at h
  rw [tw_nI w ha hb] at h
  simp only [Bool.and_eq_true, decide_eq_true_eq] at h
  exact ⟨h.1.2.2, h.1.1, h.1.2.1, h.2⟩
theorem lk_self (w : Wd) {a : Nat} (ha : a < 8) : lk w a a = false := by
  cases h : lk w a a with
  | false => rfl
  | true => exact absurd rfl (lk_ne ha ha h).1
theorem bt_lkR (w : Wd) (a : Nat) {i : Nat} (hi : i < 32) : bt (lkR w a) i = (decide (i < 8) && lk w a i) := by
  unfold lkR
  rw [bt_orS _ 0 8 (by decide) i hi, decide_eq_true (Nat.zero_le i), Bool.true_and, Nat.zero_add]
theorem lk_sim {w v : Wd} (s : sim w v) : lk v = lk w := by
  funext a b
  unfold lk twB
  rw [jn_sim s, s 5 0 rfl]
theorem lkR_sim {w v : Wd} (s : sim w v) : lkR v = lkR w := by funext a; unfold lkR; rw [lk_sim s]
theorem e_link_12 {w : Wd} (h : Rel w) {a : Nat} (ha : a < 8) (A : Nat → Int32) (k2 : Int32 → Wd → Option Wd) : ∀ (n i : Nat), i ≤ 8 → 8 - i < n → f_X1_linkAll_12 k2 n (nI a) (orS (lk w a) 0 i) (nI i) (wA w 18 A) = k2 (nI (a + 1)) (wA w 18 (upd A a (lkR w a))) := by
  have sm : sim w (wA w 18 A) := (sim.rf w).wA A (fun j e => by cases e)
  have hv := h.sim sm
  intro n
  induction n with
  | zero => intro i _ h; omega
  | succ n ih =>
    intro i hi hn
    rw [f_X1_linkAll_12]
    by_cases h8 : i = 8
    · subst h8
      rw [if_pos (by decide), e_put (k := 18) (by decide) lay_18, Option.bind_some, ptv_in ha (by decide), wA_s, wA_wA, p1]
      rfl
    · have hi8 : i < 8 := by omega
      have i1 := ih (i + 1) (by omega) (by omega)
      have no : lk w a i = false → f_X1_linkAll_12 k2 n (nI a) (orS (lk w a) 0 i) (nI (i + 1)) (wA w 18 A) = k2 (nI (a + 1)) (wA w 18 (upd A a (lkR w a))) := by
        intro e
        rw [orS_f (show lk w a (0 + i) = false by rw [Nat.zero_add]; exact e)] at i1
        exact i1
      have tw := tw_nI w ha hi8
      rw [if_neg (n8 hi8), p1]
      by_cases e : a = i
      · rw [if_pos (by rw [e])]
        exact no (by rw [← e]; exact lk_self w ha)
      · rw [if_neg (fun z => e ((nI_eq (by omega) (by omega)).mp z)), e_isBundle, Option.bind_some, wA_n _ _ (by decide)]
        dsimp only
        rw [show isT 7 (w.1 5 0) (nI a) = bt (w.1 5 0) a from nI_isT (n := 7) (by omega) (by decide)]
        cases ta : bt (w.1 5 0) a with
        | false =>
          rw [if_pos bz]
          exact no (by unfold lk; rw [tw, ta]; rfl)
        | true =>
          rw [if_neg bnz, e_isBundle, Option.bind_some, wA_n _ _ (by decide)]
          dsimp only
          rw [show isT 7 (w.1 5 0) (nI i) = bt (w.1 5 0) i from nI_isT (n := 7) (by omega) (by decide)]
          cases tb : bt (w.1 5 0) i with
          | false =>
            rw [if_pos bz]
            exact no (by unfold lk; rw [tw, ta, tb]; rfl)
          | true =>
            have e5 : (wA w 18 A).1 5 0 = w.1 5 0 := sm 5 0 rfl
            rw [if_neg bnz, e_joined hv ha hi8 (by rw [e5]; exact ta) (by rw [e5]; exact tb), Option.bind_some, jn_sim sm]
            dsimp only
            cases hj : jn w a i with
            | false =>
              rw [if_pos bz]
              exact no (by unfold lk; rw [hj, Bool.and_false])
            | true =>
              rw [if_neg bnz]
              rw [orS_t (show lk w a (0 + i) = true by rw [Nat.zero_add]; unfold lk; rw [tw, ta, tb, hj, decide_eq_true e]; rfl), Nat.zero_add] at i1
              exact i1
theorem e_link_2 {w : Wd} (h : Rel w) : ∀ (n a : Nat), a ≤ 8 → 8 - a < n → f_X1_linkAll_2 n (nI a) (wA w 18 (pfR (lkR w) (w.1 18) a)) = some (wA w 18 (pfR (lkR w) (w.1 18) 8)) := by
  intro n
  induction n with
  | zero => intro i _ h; omega
  | succ n ih =>
    intro a ha hn
    rw [f_X1_linkAll_2]
    by_cases h8 : a = 8
    · subst h8
      rw [if_pos (by decide)]
    · rw [if_neg (n8 (by omega))]
      have := e_link_12 h (show a < 8 by omega) (pfR (lkR w) (w.1 18) a) (f_X1_linkAll_2 n) fu 0 (by decide) (by decide)
      rw [pfR_s] at this
      exact this.trans (ih (a + 1) (by omega) (by omega))
def wLk (w : Wd) : Wd := wA w 18 (pfR (lkR w) (w.1 18) 8)
theorem wLk_sim (w : Wd) : sim w (wLk w) := (sim.rf w).wA _ (fun j e => by cases e)
theorem wLk_at (w : Wd) {a : Nat} (ha : a < 8) : (wLk w).1 18 a = lkR w a := by
  rw [show (wLk w).1 18 = _ from wA_s _ _ _]
  unfold pfR
  rw [if_pos ha]
theorem e_linkAll {w : Wd} (h : Rel w) : f_X1_linkAll w = some (wLk w) := by
  unfold f_X1_linkAll
  have := e_link_2 h fu 0 (by decide) (by decide)
  rw [pfR_0, wA_self] at this
  exact this
/-- the passes -/
def rcS (w : Wd) (s : Int32) (p : Nat) : Int32 := if bt s p then s ||| lkR w p else s
def rP (w : Wd) (s : Int32) : Nat → Int32
  | 0 => s
  | p + 1 => rcS w (rP w s p) p
def rA (w : Wd) (s : Int32) : Nat → Int32
  | 0 => s
  | k + 1 => rP w (rA w s k) 8
def rF (w : Wd) (b : Nat) : Int32 := rA w (jshl 1 (nI b)) 8
theorem e_reach_15 {w v : Wd} (r : ∀ a, a < 8 → v.1 18 a = lkR w a) (s : Int32) (k : Nat) (k6 : Int32 → Int32 → Wd → Option (Int32 × Wd)) : ∀ (n p : Nat), p ≤ 8 → 8 - p < n → f_X1_reachFrom_15 k6 n (rP w s p) (nI k) (nI p) v = k6 (rP w s 8) (nI (k + 1)) v := by
  intro n
  induction n with
  | zero => intro i _ h; omega
  | succ n ih =>
    intro p hp hn
    rw [f_X1_reachFrom_15]
    by_cases h8 : p = 8
    · subst h8
      rw [if_pos (by decide), p1]
    · have i1 := ih (p + 1) (by omega) (by omega)
      rw [if_neg (n8 (by omega)), e_has _ (by omega), Option.bind_some]
      dsimp only
      rw [p1]
      rw [rP] at i1
      unfold rcS at i1
      cases hb : bt (rP w s p) p with
      | false =>
        rw [if_pos bz]
        rw [hb, if_neg (by decide)] at i1
        exact i1
      | true =>
        rw [if_neg bnz, e_at (k := 18) (by decide) lay_18, Option.bind_some, atv_in (by omega) (by decide), r p (by omega)]
        dsimp only
        rw [hb, if_pos rfl] at i1
        exact i1
theorem e_reach_6 {w v : Wd} (r : ∀ a, a < 8 → v.1 18 a = lkR w a) (s : Int32) : ∀ (n k : Nat), k ≤ 8 → 8 - k < n → f_X1_reachFrom_6 n (rA w s k) (nI k) v = some (rA w s 8, v) := by
  intro n
  induction n with
  | zero => intro i _ h; omega
  | succ n ih =>
    intro k hk hn
    rw [f_X1_reachFrom_6]
    by_cases h8 : k = 8
    · subst h8
      rw [if_pos (by decide)]
    · rw [if_neg (n8 (by omega))]
      have := e_reach_15 r (rA w s k) k (f_X1_reachFrom_6 n) fu 0 (by decide) (by decide)
      exact this.trans (ih (k + 1) (by omega) (by omega))
theorem e_reach {w v : Wd} (r : ∀ a, a < 8 → v.1 18 a = lkR w a) (b : Nat) : f_X1_reachFrom (nI b) v = some (rF w b, v) := e_reach_6 r (jshl 1 (nI b)) fu 0 (by decide) (by decide)
theorem e_members {w : Wd} (h : Rel w) (b : Nat) : f_X1_membersWith (nI b) w = some (rF w b, wLk w) := by
  unfold f_X1_membersWith
  rw [e_linkAll h, Option.bind_some, e_reach (w := w) (fun a ha => wLk_at w ha) b, Option.bind_some]
/-- the reference's -/
def rQ (w : Wd) (s : Int32) (p q : Nat) : Int32 := if bt s p then s ||| orS (lk w p) 0 q else s
theorem rQ_p (w : Wd) (s : Int32) {p q : Nat} (hp : p < 8) (hq : q ≤ 8) : bt (rQ w s p q) p = bt s p := by
  unfold rQ
  cases hb : bt s p with
  | false => rw [if_neg (by decide)]; exact hb
  | true => rw [if_pos rfl, b_or, hb, Bool.true_or]
theorem or_or (x y z : Int32) : x ||| y ||| z = x ||| (y ||| z) := by
  apply b_ext; intro i _; rw [b_or, b_or, b_or, b_or, Bool.or_assoc]
theorem rQ_s (w : Wd) (s : Int32) (p q : Nat) : rQ w s p (q + 1) = if bt s p && lk w p q then rQ w s p q ||| jshl 1 (nI q) else rQ w s p q := by
  unfold rQ
  cases bt s p with
  | false => rfl
  | true =>
    rw [if_pos rfl, if_pos rfl, Bool.true_and]
    cases hl : lk w p q with
    | false => rw [orS_f (show lk w p (0 + q) = false by rw [Nat.zero_add]; exact hl)]; rfl
    | true => rw [orS_t (show lk w p (0 + q) = true by rw [Nat.zero_add]; exact hl), if_pos rfl, Nat.zero_add, or_or]
theorem rQ_8 (w : Wd) (s : Int32) (p : Nat) : rQ w s p 8 = rcS w s p := rfl
theorem rQ_0 (w : Wd) (s : Int32) (p : Nat) : rQ w s p 0 = s := by
  unfold rQ
  rw [orS, or_0]
  split <;> rfl
def rK (w : Wd) (s : Int32) (k : Nat) : Int32 := rQ w (rP w s (k / 8)) (k / 8) (k % 8)
theorem rK_s (w : Wd) (s : Int32) {k : Nat} (hk : k < 64) : rK w s (k + 1) = if bt (rK w s k) (k / 8) && lk w (k / 8) (k % 8) then rK w s k ||| jshl 1 (nI (k % 8)) else rK w s k := by
  have e : bt (rK w s k) (k / 8) = bt (rP w s (k / 8)) (k / 8) := rQ_p w _ (by omega) (by omega)
  rw [e]
  by_cases h7 : k % 8 = 7
  · have e1 : (k + 1) / 8 = k / 8 + 1 := by omega
    have e2 : (k + 1) % 8 = 0 := by omega
    have : rK w s (k + 1) = rQ w (rP w s (k / 8)) (k / 8) (7 + 1) := by
      unfold rK
      rw [e1, e2, rQ_0]
      rfl
    rw [this, rQ_s]
    unfold rK
    rw [h7]
  · have e1 : (k + 1) / 8 = k / 8 := by omega
    have e2 : (k + 1) % 8 = k % 8 + 1 := by omega
    have : rK w s (k + 1) = rQ w (rP w s (k / 8)) (k / 8) (k % 8 + 1) := by
      unfold rK
      rw [e1, e2]
    rw [this, rQ_s]
    rfl
theorem m_field_15 {w : Wd} (h : Rel w) (s : Int32) (x : Nat) (k6 : Int32 → Int32 → Wd → Option (Int32 × Wd)) : ∀ (n k : Nat), k ≤ 64 → 64 - k < n → f_X10_fieldOf_15 k6 n (rK w s k) (nI x) (nI k) w = k6 (rP w s 8) (nI (x + 1)) w := by
  intro n
  induction n with
  | zero => intro i _ h; omega
  | succ n ih =>
    intro k hk hn
    rw [f_X10_fieldOf_15]
    by_cases h64 : k = 64
    · subst h64
      rw [if_pos (by decide), p1]
      show k6 (rQ w (rP w s 8) 8 0) _ _ = _
      rw [rQ_0]
    · have hk' : k < 64 := by omega
      have i1 := ih (k + 1) (by omega) (by omega)
      rw [rK_s w s hk'] at i1
      have d1 : nI k / 8 = nI (k / 8) := pk_div (d := 8) (by omega) (by decide) (by decide)
      have d2 : jrem (nI k) 8 = nI (k % 8) := pk_rem (d := 8) (by omega) (by decide) (by decide)
      have l1 : k / 8 < 8 := by omega
      have l2 : k % 8 < 8 := by omega
      unfold f_X10_fieldOf_76
      rw [if_neg (n64 hk'), d1, d2, bit1 _ (show k / 8 < 32 by omega), p1, or_0]
      cases hb : bt (rK w s k) (k / 8) with
      | false =>
        rw [if_neg (by decide)]
        rw [hb, Bool.false_and, if_neg (by decide)] at i1
        exact i1
      | true =>
        rw [hb, Bool.true_and] at i1
        rw [if_pos (show b2i true = 1 from rfl), m_areTwo h.told, Option.bind_some]
        dsimp only
        cases ht : twB w (nI (k / 8)) (nI (k % 8)) with
        | false =>
          rw [if_pos bz]
          rw [show lk w (k / 8) (k % 8) = false by unfold lk; rw [ht]; rfl, if_neg (by decide)] at i1
          exact i1
        | true =>
          have tw := ht
          rw [tw_nI w l1 l2] at tw
          simp only [Bool.and_eq_true, decide_eq_true_eq] at tw
          rw [if_neg bnz, m_joined h l1 l2 tw.1 tw.2.1, Option.bind_some]
          dsimp only
          cases hj : jn w (k / 8) (k % 8) with
          | false =>
            rw [if_pos bz]
            rw [show lk w (k / 8) (k % 8) = false by unfold lk; rw [hj, Bool.and_false], if_neg (by decide)] at i1
            exact i1
          | true =>
            rw [if_neg bnz]
            rw [show lk w (k / 8) (k % 8) = true by unfold lk; rw [ht, hj]; rfl, if_pos rfl] at i1
            exact i1
theorem m_field_6 {w : Wd} (h : Rel w) (s : Int32) : ∀ (n k : Nat), k ≤ 8 → 8 - k < n → f_X10_fieldOf_6 n (rA w s k) (nI k) w = some (rA w s 8, w) := by
  intro n
  induction n with
  | zero => intro i _ h; omega
  | succ n ih =>
    intro k hk hn
    rw [f_X10_fieldOf_6]
    by_cases h8 : k = 8
    · subst h8
      rw [if_pos (by decide)]
    · rw [if_neg (n8 (by omega))]
      have := m_field_15 h (rA w s k) k (f_X10_fieldOf_6 n) fu 0 (by decide) (by decide)
      rw [show rK w (rA w s k) 0 = rA w s k from rQ_0 _ _ _] at this
      exact this.trans (ih (k + 1) (by omega) (by omega))
theorem m_fieldOf {w : Wd} (h : Rel w) (b : Nat) : f_X10_fieldOf (nI b) w = some (rF w b, w) := m_field_6 h (jshl 1 (nI b)) fu 0 (by decide) (by decide)
theorem rF_sim {w v : Wd} (s : sim w v) : rF v = rF w := by
  have e1 : ∀ x p, rP v x p = rP w x p := by
    intro x p
    induction p with
    | zero => rfl
    | succ p ih => rw [rP, rP, ih]; unfold rcS; rw [lkR_sim s]
  have e2 : ∀ x k, rA v x k = rA w x k := by
    intro x k
    induction k with
    | zero => rfl
    | succ k ih => rw [rA, rA, ih, e1]
  funext b
  exact e2 _ 8
