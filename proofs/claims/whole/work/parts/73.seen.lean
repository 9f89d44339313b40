/-! seen -/
def exB (q : Nat → Bool) : Nat → Bool
  | 0 => false
  | n + 1 => exB q n || q n
/-- bundle i is due in picture p -/
def duB (w : Wd) (p i : Nat) : Bool := decide (i < 8) && (bt (w.1 5 0) i && shw w p i)
theorem e_dueIn_4 {w : Wd} {p : Nat} (hp : p < 8) : ∀ (n i : Nat), i ≤ 8 → 8 - i < n → f_X2_dueIn_4 n (nI p) (orS (duB w p) 0 i) (nI i) w = some (orS (duB w p) 0 8, w) := by
  intro n
  induction n with
  | zero => intro i _ h; omega
  | succ n ih =>
    intro i hi hn
    rw [f_X2_dueIn_4]
    by_cases h : i = 8
    · subst h
      rw [if_pos (by decide)]
    · have i1 := ih (i + 1) (by omega) (by omega)
      have hi8 : i < 8 := by omega
      rw [if_neg (n8 hi8), e_isBundle, Option.bind_some]
      dsimp only
      rw [show isT 7 (w.1 5 0) (nI i) = bt (w.1 5 0) i from nI_isT (n := 7) (by omega) (by decide), p1]
      cases hb : bt (w.1 5 0) i with
      | false =>
        have hd : duB w p (0 + i) = false := by unfold duB; rw [Nat.zero_add, hb, Bool.false_and, Bool.and_false]
        rw [if_pos bz]
        rw [orS_f hd] at i1
        exact i1
      | true =>
        rw [if_neg bnz, e_shouldShow hp hi8, Option.bind_some]
        dsimp only
        cases hs : shw w p i with
        | false =>
          have hd : duB w p (0 + i) = false := by unfold duB; rw [Nat.zero_add, hs, Bool.and_false, Bool.and_false]
          rw [if_pos bz]
          rw [orS_f hd] at i1
          exact i1
        | true =>
          have hd : duB w p (0 + i) = true := by unfold duB; rw [Nat.zero_add, hb, hs, decide_eq_true hi8]; rfl
          rw [if_neg bnz]
          rw [orS_t hd, Nat.zero_add] at i1
          exact i1
def dueX (w : Wd) (p : Nat) : Int32 := orS (duB w p) 0 8
theorem e_dueIn {w : Wd} {p : Nat} (hp : p < 8) : f_X2_dueIn (nI p) w = some (dueX w p, w) := e_dueIn_4 hp fu 0 (by decide) (by decide)
theorem bt_due (w : Wd) (p : Nat) {i : Nat} (hi : i < 32) : bt (dueX w p) i = duB w p i := by
  unfold dueX
  rw [bt_orS _ 0 8 (by decide) i hi, Nat.zero_add, decide_eq_true (Nat.zero_le i), Bool.true_and]
  unfold duB
  cases decide (i < 8) <;> rfl
theorem e_due_4 {w : Wd} {N : Nat} (hN : N ≤ 8) (e : w.1 29 4 = nI N) : ∀ (n p : Nat) (x : Int32), p ≤ N → N - p < n → (∀ i, i < 32 → bt x i = exB (fun q => duB w q i) p) → ∃ y, f_X2_due_4 n x (nI p) w = some (y, w) ∧ ∀ i, i < 32 → bt y i = exB (fun q => duB w q i) N := by
  intro n
  induction n with
  | zero => intro p x _ h; omega
  | succ n ih =>
    intro p x hp hn hx
    rw [f_X2_due_4, e]
    by_cases h : p = N
    · subst h
      rw [if_pos (nI_le (Nat.le_refl p) (by omega))]
      exact ⟨x, rfl, hx⟩
    · rw [if_neg (nI_ge (by omega) (by omega)), e_dueIn (by omega), Option.bind_some]
      dsimp only
      rw [p1]
      refine ih (p + 1) _ (by omega) (by omega) (fun i hi => ?_)
      rw [b_or, hx i hi, bt_due w p hi]; rfl
theorem e_due {w : Wd} {N : Nat} (hN : N ≤ 8) (e : w.1 29 4 = nI N) : ∃ y, f_X2_due w = some (y, w) ∧ ∀ i, i < 32 → bt y i = exB (fun q => duB w q i) N := e_due_4 hN e fu 0 0 (Nat.zero_le _) (Nat.lt_of_le_of_lt (by omega : N - 0 ≤ 8) (by decide)) (fun i _ => b_0 i)
/-- and seen -/
def seB (w : Wd) (p i : Nat) : Bool := duB w p i && bt (w.1 32 p) i
theorem e_stand_4 {w : Wd} {N : Nat} (hN : N ≤ 8) (e : w.1 29 4 = nI N) : ∀ (n p : Nat) (x : Int32), p ≤ N → N - p < n → (∀ i, i < 32 → bt x i = exB (fun q => seB w q i) p) → ∃ y, f_X2_standing_4 n x (nI p) w = some (y, w) ∧ ∀ i, i < 32 → bt y i = exB (fun q => seB w q i) N := by
  intro n
  induction n with
  | zero => intro p x _ h; omega
  | succ n ih =>
    intro p x hp hn hx
    rw [f_X2_standing_4, e]
    by_cases h : p = N
    · subst h
      rw [if_pos (nI_le (Nat.le_refl p) (by omega))]
      exact ⟨x, rfl, hx⟩
    · rw [if_neg (nI_ge (by omega) (by omega)), e_dueIn (by omega), Option.bind_some, e_at (k := 32) (by decide) lay_32, Option.bind_some, atv_in (by omega) (by decide)]
      dsimp only
      rw [p1]
      refine ih (p + 1) _ (by omega) (by omega) (fun i hi => ?_)
      rw [b_or, hx i hi, b_and, bt_due w p hi]; rfl
theorem e_stand {w : Wd} {N : Nat} (hN : N ≤ 8) (e : w.1 29 4 = nI N) : ∃ y, f_X2_standing w = some (y, w) ∧ ∀ i, i < 32 → bt y i = exB (fun q => seB w q i) N := e_stand_4 hN e fu 0 0 (Nat.zero_le _) (Nat.lt_of_le_of_lt (by omega : N - 0 ≤ 8) (by decide)) (fun i _ => b_0 i)
/-- shown by a picture, seen by one, of the first n -/
def shB (w : Wd) (N i : Nat) : Bool := exB (fun p => shw w p i) N
def zB (w : Wd) (N i : Nat) : Bool := exB (fun p => shw w p i && bt (w.1 32 p) i) N
theorem due_sh (w : Wd) {i : Nat} : ∀ N, exB (fun q => duB w q i) N = (decide (i < 8) && (bt (w.1 5 0) i && shB w N i))
  | 0 => by unfold shB exB; simp
  | N + 1 => by
    have ih := due_sh w (i := i) N
    unfold shB at *
    rw [exB, exB, ih]
    unfold duB
    cases decide (i < 8) <;> cases bt (w.1 5 0) i <;> simp
theorem see_z (w : Wd) {i : Nat} : ∀ N, exB (fun q => seB w q i) N = (decide (i < 8) && (bt (w.1 5 0) i && zB w N i))
  | 0 => by unfold zB exB; simp
  | N + 1 => by
    have ih := see_z w (i := i) N
    unfold zB at *
    rw [exB, exB, ih]
    unfold seB duB
    cases decide (i < 8) <;> cases bt (w.1 5 0) i <;> simp
/-- neither: and so open, by way -/
def opN (w : Wd) (N i : Nat) : Bool := bt (w.1 5 0) i && (!shB w N i && decide (w.1 6 (9 * i + 2) ≠ 1))
def opE (w : Wd) (N i : Nat) : Bool := bt (w.1 5 0) i && (!shB w N i && decide (w.1 6 (9 * i + 2) = 1))
theorem ct_s {p : Nat → Bool} {i : Nat} : nI (fb_ct p (i + 1)) = nI (fb_ct p i) + b2i (p i) := by
  rw [fb_ct_succ, ← nI_add]
  cases p i <;> rfl
theorem e_best_22 {w : Wd} {N : Nat} {x : Int32} (hx : ∀ i, i < 8 → bt x i = (bt (w.1 5 0) i && !shB w N i)) : ∀ (n i : Nat), i ≤ 8 → 8 - i < n → f_X2_bestSun_22 n x (nI (fb_ct (opE w N) i)) (nI (fb_ct (opN w N) i)) (nI i) w = some (b2i (decide (fb_ct (opE w N) 8 < fb_ct (opN w N) 8)), w) := by
  intro n
  induction n with
  | zero => intro i _ h; omega
  | succ n ih =>
    intro i hi hn
    rw [f_X2_bestSun_22]
    have l1 : ∀ (p : Nat → Bool) k, k ≤ 8 → fb_ct p k ≤ 8 := fun p k hk => Nat.le_trans (fb_ct_le p k) hk
    by_cases h : i = 8
    · subst h
      rw [if_pos (by decide)]
      have a := l1 (opE w N) 8 (Nat.le_refl 8)
      have b := l1 (opN w N) 8 (Nat.le_refl 8)
      by_cases h2 : fb_ct (opN w N) 8 ≤ fb_ct (opE w N) 8
      · rw [if_pos (nI_le h2 (by omega)), decide_eq_false (by omega)]; rfl
      · rw [if_neg (nI_ge (by omega) (by omega)), decide_eq_true (by omega)]; rfl
    · have i1 := ih (i + 1) (by omega) (by omega)
      have hi8 : i < 8 := by omega
      rw [ct_s, ct_s] at i1
      rw [if_neg (n8 hi8), e_has _ (by omega), Option.bind_some]
      dsimp only
      rw [hx i hi8, p1]
      cases hb : (bt (w.1 5 0) i && !shB w N i) with
      | false =>
        rw [if_pos bz]
        have e1 : opE w N i = false := by unfold opE; rw [← Bool.and_assoc, hb, Bool.false_and]
        have e2 : opN w N i = false := by unfold opN; rw [← Bool.and_assoc, hb, Bool.false_and]
        rw [e1, e2, b2i_f] at i1
        rw [show nI (fb_ct (opE w N) i) + 0 = nI (fb_ct (opE w N) i) from nI_add _ 0, show nI (fb_ct (opN w N) i) + 0 = nI (fb_ct (opN w N) i) from nI_add _ 0] at i1
        exact i1
      | true =>
        rw [if_neg bnz, show f_X0_part (nI i) 2 w = _ from e_part (k := 2) hi8 (by decide) w, Option.bind_some]
        dsimp only
        by_cases hw : w.1 6 (9 * i + 2) = 1
        · rw [if_pos hw]
          have e1 : opE w N i = true := by unfold opE; rw [← Bool.and_assoc, hb, decide_eq_true hw]; rfl
          have e2 : opN w N i = false := by unfold opN; rw [← Bool.and_assoc, hb, decide_eq_false (fun z => z hw)]; rfl
          rw [e1, e2, b2i_f, b2i_t] at i1
          rw [show nI (fb_ct (opN w N) i) + 0 = nI (fb_ct (opN w N) i) from nI_add _ 0] at i1
          exact i1
        · rw [if_neg hw]
          have e1 : opE w N i = false := by unfold opE; rw [← Bool.and_assoc, hb, decide_eq_false hw]; rfl
          have e2 : opN w N i = true := by unfold opN; rw [← Bool.and_assoc, hb, decide_eq_true hw]; rfl
          rw [e1, e2, b2i_f, b2i_t] at i1
          rw [show nI (fb_ct (opE w N) i) + 0 = nI (fb_ct (opE w N) i) from nI_add _ 0] at i1
          exact i1
