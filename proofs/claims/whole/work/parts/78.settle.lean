/-! years: what is told of them; the class's settling -/
def w2 (w : Wd) (a b : Nat) (A B : Nat → Int32) : Wd := wA (wA w a A) b B
theorem w2_w {w : Wd} {a b : Nat} (h : a ≠ b) (A B A' B' : Nat → Int32) : wA (wA (w2 w a b A B) a A') b B' = w2 w a b A' B' := by
  unfold w2 wA
  apply Prod.ext
  · funext c
    show (if c = b then B' else if c = a then A' else if c = b then B else if c = a then A else w.1 c) = if c = b then B' else if c = a then A' else w.1 c
    split
    · rfl
    · split
      · rfl
      · rfl
  · rfl
theorem w2_a {w : Wd} {a b : Nat} (h : a ≠ b) (A B : Nat → Int32) : (w2 w a b A B).1 a = A := by unfold w2; rw [wA_n _ _ h, wA_s]
theorem w2_b {w : Wd} {a b : Nat} (A B : Nat → Int32) : (w2 w a b A B).1 b = B := by unfold w2; rw [wA_s]
theorem w2_n {w : Wd} {a b c : Nat} (h1 : c ≠ a) (h2 : c ≠ b) (A B : Nat → Int32) : (w2 w a b A B).1 c = w.1 c := by unfold w2; rw [wA_n _ _ h2, wA_n _ _ h1]
theorem w2_self (w : Wd) {a b : Nat} (h : a ≠ b) : w2 w a b (w.1 a) (w.1 b) = w := by
  unfold w2
  rw [wA_self, wA_self]
def fF (w : Wd) (s : Int32) : Nat → Int32
  | 0 => 2000
  | k + 1 => if bt s (k + 1) then jmin (fF w s k) (w.1 11 (4 * (k + 1) + 2)) else fF w s k
def fL (w : Wd) (s : Int32) : Nat → Int32
  | 0 => 0
  | k + 1 => if bt s (k + 1) then jmax (fL w s k) (w.1 11 (4 * (k + 1) + 3)) else fL w s k
def ftS (w : Wd) (t : Nat) : Int32 := if t < 8 ∧ bt (w.1 5 0) t = true then tms w t else 0
def yF (w : Wd) (t : Nat) : Int32 := if ftS w t = 0 then w.1 8 t else jmax (w.1 8 t) (fF w (ftS w t) 12)
def yG (w : Wd) (t : Nat) : Int32 := if ftS w t = 0 then w.1 9 t else jmin (w.1 9 t) (fL w (ftS w t) 12)
theorem isT_8 {told : Int32} {t : Nat} (h : 8 ≤ t) (h2 : t < 2 ^ 31) : isT 7 told (nI t) = false := by
  unfold isT wi
  have : ¬ nI t ≤ 7 := nI_ge (b := t) (a := 7) (by omega) h2
  rw [decide_eq_false this, Bool.and_false, Bool.false_and]
theorem e_take_136 {w : Wd} {t : Nat} (ht : t < 14) (x y : Int32) (A B : Nat → Int32) : f_X8_takeToldYears_136 (nI t) x y (w2 w 13 14 A B) = some (w2 w 13 14 (upd A t x) (upd B t y)) := by
  unfold f_X8_takeToldYears_136
  rw [e_put (k := 13) (by decide) lay_13, Option.bind_some, e_put (k := 14) (by decide) lay_14, Option.bind_some, ptv_in ht (by decide), ptv_in ht (by decide), w2_a (by decide), wA_n _ _ (by decide), w2_b, w2_w (by decide)]
theorem e_take_65 {w : Wd} {t : Nat} (ht : t < 14) (x y s : Int32) (A B : Nat → Int32) : ∀ (n k : Nat), k ≤ 12 → 12 - k < n → f_X8_takeToldYears_65 n (nI t) x y s (fF w s k) (fL w s k) (nI (k + 1)) (w2 w 13 14 A B) = some (w2 w 13 14 (upd A t (jmax x (fF w s 12))) (upd B t (jmin y (fL w s 12)))) := by
  intro n
  induction n with
  | zero => intro k _ h; omega
  | succ n ih =>
    intro k hk hn
    rw [f_X8_takeToldYears_65]
    by_cases h : k = 12
    · subst h
      rw [if_pos (by decide)]
      exact e_take_136 ht _ _ A B
    · have i1 := ih (k + 1) (by omega) (by omega)
      rw [if_neg (n12 (by omega)), e_has _ (by omega), Option.bind_some]
      dsimp only
      rw [p1]
      rw [fF, fL] at i1
      cases hb : bt s (k + 1) with
      | false =>
        rw [if_pos bz]
        rw [hb, if_neg (by decide), if_neg (by decide)] at i1
        exact i1
      | true =>
        rw [if_neg bnz, show f_X0_teamPart (nI (k + 1)) 2 _ = _ from e_teamPart (k := k + 1) (j := 2) (by omega) (by decide) _, Option.bind_some]
        dsimp only
        rw [show f_X0_teamPart (nI (k + 1)) 3 _ = _ from e_teamPart (k := k + 1) (j := 3) (by omega) (by decide) _, Option.bind_some]
        dsimp only
        rw [w2_n (by decide) (by decide)]
        rw [hb, if_pos rfl, if_pos rfl] at i1
        exact i1
theorem e_take {w : Wd} {t : Nat} (ht : t < 14) (A B : Nat → Int32) : f_X8_takeToldYears (nI t) (w2 w 13 14 A B) = some (w2 w 13 14 (upd A t (yF w t)) (upd B t (yG w t))) := by
  have T : ∀ s, ftS w t = s → f_X8_takeToldYears_47 s (nI t) (w.1 8 t) (w.1 9 t) (w2 w 13 14 A B) = some (w2 w 13 14 (upd A t (yF w t)) (upd B t (yG w t))) := by
    intro s hs
    unfold f_X8_takeToldYears_47 yF yG
    rw [hs]
    by_cases h : s = 0
    · rw [if_pos h, if_pos h, if_pos h]
      exact e_take_136 ht _ _ A B
    · rw [if_neg h, if_neg h, if_neg h]
      exact e_take_65 ht _ _ s A B fu 0 (by decide) (by decide)
  unfold f_X8_takeToldYears
  rw [e_at (k := 8) (by decide) lay_8, Option.bind_some]
  dsimp only
  rw [e_at (k := 9) (by decide) lay_9, Option.bind_some]
  dsimp only
  rw [e_isBundle, Option.bind_some, atv_in ht (by decide), atv_in ht (by decide), w2_n (by decide) (by decide), w2_n (by decide) (by decide), w2_n (by decide) (by decide)]
  dsimp only
  by_cases h8 : t < 8
  · rw [show isT 7 (w.1 5 0) (nI t) = bt (w.1 5 0) t from nI_isT (n := 7) (by omega) (by decide)]
    cases hb : bt (w.1 5 0) t with
    | false =>
      rw [if_pos bz]
      exact T 0 (by unfold ftS; rw [if_neg (fun z => by rw [hb] at z; cases z.2)])
    | true =>
      rw [if_neg bnz, e_fitting h8, Option.bind_some]
      exact T _ (by unfold ftS; rw [if_pos ⟨h8, hb⟩]; rfl)
  · rw [isT_8 (by omega) (by omega), if_pos bz]
    exact T 0 (by unfold ftS; rw [if_neg (fun z => h8 z.1)])
def pfR (F f : Nat → Int32) (i : Nat) : Nat → Int32 := fun j => if j < i then F j else f j
theorem pfR_s (F f : Nat → Int32) (i : Nat) : upd (pfR F f i) i (F i) = pfR F f (i + 1) := by
  funext j
  unfold upd pfR
  by_cases h : j = i
  · subst h; rw [if_pos rfl, if_pos (by omega)]
  · rw [if_neg h]
    by_cases h2 : j < i
    · rw [if_pos h2, if_pos (by omega)]
    · rw [if_neg h2, if_neg (by omega)]
theorem pfR_0 (F f : Nat → Int32) : pfR F f 0 = f := by funext j; unfold pfR; rw [if_neg (by omega)]
/-- rows as numbers -/
def rwL (p : Nat → Bool) (L : Nat → Int) (f : Nat → Int32) : Nat → Int32 := fun j => if p j then tI (L j) else f j
def rwH (p : Nat → Bool) (M : Nat → Int) (f : Nat → Int32) : Nat → Int32 := fun j => if p j then tI (-(M j)) else f j
theorem rwL_at {p : Nat → Bool} {a : Nat} (h : p a = true) (L : Nat → Int) (f : Nat → Int32) : rwL p L f a = tI (L a) := by unfold rwL; rw [if_pos h]
theorem rwH_at {p : Nat → Bool} {a : Nat} (h : p a = true) (M : Nat → Int) (f : Nat → Int32) : rwH p M f a = tI (-(M a)) := by unfold rwH; rw [if_pos h]
theorem rwL_up {p : Nat → Bool} {a : Nat} (h : p a = true) (L : Nat → Int) (f : Nat → Int32) (x : Int) : upd (rwL p L f) a (tI x) = rwL p (uI L a x) f := by
  funext j
  unfold upd rwL uI
  by_cases e : j = a
  · subst e; rw [if_pos rfl, if_pos h, if_pos rfl]
  · rw [if_neg e, if_neg e]
theorem rwH_up {p : Nat → Bool} {a : Nat} (h : p a = true) (M : Nat → Int) (f : Nat → Int32) (x : Int) : upd (rwH p M f) a (tI (-x)) = rwH p (uI M a x) f := by
  funext j
  unfold upd rwH uI
  by_cases e : j = a
  · subst e; rw [if_pos rfl, if_pos h, if_pos rfl]
  · rw [if_neg e, if_neg e]
def sm2 (L : Nat → Int) : Prop := ∀ j, -10000 ≤ L j ∧ L j ≤ 10000
theorem tI_mx {L : Nat → Int} (h : sm2 L) (a b : Nat) : jmax (tI (L a)) (tI (L b) + 1) = tI (mxI (L a) (L b + 1)) := by
  have h1 := h a
  have h2 := h b
  unfold jmax mxI
  rw [tI_1]
  simp only [tI_lt (x := L a) (y := L b + 1) (by unfold smI; omega) (by unfold smI; omega)]
  split <;> rfl
theorem tI_mn {M : Nat → Int} (h : sm2 M) (a b : Nat) : jmin (tI (-(M a))) (tI (-(M b)) - 1) = tI (-(mxI (M a) (M b + 1))) := by
  have h1 := h a
  have h2 := h b
  unfold jmin mxI
  rw [tI_m1]
  simp only [tI_lt (x := -(M b) - 1) (y := -(M a)) (by unfold smI; omega) (by unfold smI; omega)]
  by_cases e : M a < M b + 1
  · rw [if_pos (by omega), if_pos e]; congr 1; omega
  · rw [if_neg (by omega), if_neg e]
def L0 (w : Wd) (t : Nat) : Int := if t < 14 then (yF w t).toInt else 0
def M0 (w : Wd) (t : Nat) : Int := if t < 14 then -(yG w t).toInt else 0
def yLn (w : Wd) (k n : Nat) : Nat → Int := psI (qX w) pT pU (paI (qX w) pT pU (L0 w) k) n
def yMn (w : Wd) (k n : Nat) : Nat → Int := psI (qY w) pU pT (paI (qY w) pU pT (M0 w) k) n
theorem yLn_s (w : Wd) (k n : Nat) : yLn w k (n + 1) = stI (qX w) (yLn w k n) (pT n) (pU n) := rfl
theorem yMn_s (w : Wd) (k n : Nat) : yMn w k (n + 1) = stI (qY w) (yMn w k n) (pU n) (pT n) := rfl
theorem psI_0 (q : Nat → Nat → Bool) (pa pb : Nat → Nat) (L : Nat → Int) : psI q pa pb L 0 = L := rfl
theorem paI_s (q : Nat → Nat → Bool) (pa pb : Nat → Nat) (L : Nat → Int) (k : Nat) : paI q pa pb L (k + 1) = psI q pa pb (paI q pa pb L k) 196 := rfl
theorem yLn_k (w : Wd) (k : Nat) : yLn w k 196 = yLn w (k + 1) 0 := by unfold yLn; rw [psI_0, paI_s]
theorem yMn_k (w : Wd) (k : Nat) : yMn w k 196 = yMn w (k + 1) 0 := by unfold yMn; rw [psI_0, paI_s]
theorem fF_b {w : Wd} (h : Rel w) {s : Int32} (hs : ∀ k, k < 13 → bt s k = true → bt (w.1 5 7) k = true) : ∀ k, k ≤ 12 → 0 ≤ (fF w s k).toInt ∧ (fF w s k).toInt ≤ 2000
  | 0, _ => by show 0 ≤ (nI 2000).toInt ∧ (nI 2000).toInt ≤ 2000; rw [nI_toInt (by decide)]; omega
  | k + 1, hk => by
    have ih := fF_b h hs k (by omega)
    rw [fF]
    split
    · rename_i hb
      obtain ⟨-, -, ⟨x, hx1, hx2, e⟩, -⟩ := h.2.2.2.2.2.2.2.2.2.2.2.2.2.1 (k + 1) (by omega) (hs (k + 1) (by omega) hb)
      rw [e]
      unfold jmin
      split
      · rw [nI_toInt (by omega)]; omega
      · exact ih
    · exact ih
theorem fL_b {w : Wd} (h : Rel w) {s : Int32} (hs : ∀ k, k < 13 → bt s k = true → bt (w.1 5 7) k = true) : ∀ k, k ≤ 12 → 0 ≤ (fL w s k).toInt ∧ (fL w s k).toInt ≤ 2000
  | 0, _ => by show 0 ≤ (nI 0).toInt ∧ (nI 0).toInt ≤ 2000; rw [nI_toInt (by decide)]; omega
  | k + 1, hk => by
    have ih := fL_b h hs k (by omega)
    rw [fL]
    split
    · rename_i hb
      obtain ⟨-, -, -, ⟨x, hx1, hx2, e⟩⟩ := h.2.2.2.2.2.2.2.2.2.2.2.2.2.1 (k + 1) (by omega) (hs (k + 1) (by omega) hb)
      rw [e]
      unfold jmax
      split
      · rw [nI_toInt (by omega)]; omega
      · exact ih
    · exact ih
theorem ftS_t (w : Wd) (t : Nat) : ∀ k, k < 13 → bt (ftS w t) k = true → bt (w.1 5 7) k = true := by
  intro k hk hb
  unfold ftS at hb
  split at hb
  · unfold tms at hb
    rw [bt_orS _ 1 12 (by decide) k (by omega), Bool.and_eq_true] at hb
    have := hb.2
    unfold tmv at this
    rw [Bool.and_eq_true] at this
    exact this.1
  · rw [b_0] at hb; cases hb
theorem yF_b {w : Wd} (h : Rel w) {t : Nat} (ht : t < 14) : 0 ≤ (yF w t).toInt ∧ (yF w t).toInt ≤ 2000 := by
  obtain ⟨⟨x, hx1, hx2, e⟩, -⟩ := h.2.2.2.2.2.2.2.2.2.2.2.1 t ht
  have := fF_b h (ftS_t w t) 12 (Nat.le_refl _)
  unfold yF
  rw [e]
  split
  · rw [nI_toInt (by omega)]; omega
  · unfold jmax
    split
    · exact this
    · rw [nI_toInt (by omega)]; omega
theorem yG_b {w : Wd} (h : Rel w) {t : Nat} (ht : t < 14) : 0 ≤ (yG w t).toInt ∧ (yG w t).toInt ≤ 2000 := by
  obtain ⟨-, ⟨x, hx1, hx2, e⟩⟩ := h.2.2.2.2.2.2.2.2.2.2.2.1 t ht
  have := fL_b h (ftS_t w t) 12 (Nat.le_refl _)
  unfold yG
  rw [e]
  split
  · rw [nI_toInt (by omega)]; omega
  · unfold jmin
    split
    · exact this
    · rw [nI_toInt (by omega)]; omega
theorem L0_b {w : Wd} (h : Rel w) (t : Nat) : 0 ≤ L0 w t ∧ L0 w t ≤ 2000 := by
  unfold L0
  split
  · rename_i ht; exact yF_b h ht
  · omega
theorem M0_b {w : Wd} (h : Rel w) (t : Nat) : -2000 ≤ M0 w t ∧ M0 w t ≤ 0 := by
  unfold M0
  split
  · rename_i ht; have := yG_b h ht; omega
  · omega
theorem yLn_b {w : Wd} (h : Rel w) {k n : Nat} (hk : k ≤ 15) (hn : n ≤ 196) : sm2 (yLn w k n) := by
  intro j
  have a1 := psI_bd (q := qX w) (pa := pT) (pb := pU) (paI_bd (q := qX w) (pa := pT) (pb := pU) (fun c => (L0_b h c).2) k) n j
  have a2 := paI_up (qX w) pT pU (L0 w) k j
  have a3 := psI_up (qX w) pT pU (paI (qX w) pT pU (L0 w) k) n j
  have a4 := (L0_b h j).1
  unfold yLn
  omega
theorem yMn_b {w : Wd} (h : Rel w) {k n : Nat} (hk : k ≤ 15) (hn : n ≤ 196) : sm2 (yMn w k n) := by
  intro j
  have a1 := psI_bd (q := qY w) (pa := pU) (pb := pT) (paI_bd (q := qY w) (pa := pU) (pb := pT) (fun c => (M0_b h c).2) k) n j
  have a2 := paI_up (qY w) pU pT (M0 w) k j
  have a3 := psI_up (qY w) pU pT (paI (qY w) pU pT (M0 w) k) n j
  have a4 := (M0_b h j).1
  unfold yMn
  omega
def p14 (j : Nat) : Bool := decide (j < 14)
theorem p14_t {j : Nat} (h : j < 14) : p14 j = true := decide_eq_true h
/-- the class's rows behind k turns and n steps -/
def yS (w : Wd) (k n : Nat) : Wd := w2 w 13 14 (rwL p14 (yLn w k n) (w.1 13)) (rwH p14 (yMn w k n) (w.1 14))
theorem yS_k (w : Wd) (k : Nat) : yS w k 196 = yS w (k + 1) 0 := by unfold yS; rw [yLn_k, yMn_k]
theorem pT_e {t u : Nat} (hu : u < 14) : pT (14 * t + u) = t := by unfold pT; omega
theorem pU_e {t u : Nat} (hu : u < 14) : pU (14 * t + u) = u := by unfold pU; omega
theorem stI_f {q : Nat → Nat → Bool} {a b : Nat} (h : q a b = false) (L : Nat → Int) : stI q L a b = L := by unfold stI; rw [h]; rfl
theorem stI_t {q : Nat → Nat → Bool} {a b : Nat} (h : q a b = true) (L : Nat → Int) : stI q L a b = uI L a (mxI (L a) (L b + 1)) := by unfold stI; rw [if_pos h]
theorem yS_f {w : Wd} {k t u : Nat} (hu : u < 14) (h : bt (ruX w t) u = false) : yS w k (14 * t + u + 1) = yS w k (14 * t + u) := by
  unfold yS
  rw [yLn_s, yMn_s, pT_e hu, pU_e hu, stI_f (q := qX w) h, stI_f (q := qY w) h]
theorem e_earliest {t : Nat} (ht : t < 14) (w : Wd) : f_X8_earliestOf (nI t) w = some (w.1 13 t, w) := by
  unfold f_X8_earliestOf
  rw [e_at (k := 13) (by decide) lay_13, Option.bind_some, atv_in ht (by decide)]
theorem e_latest {t : Nat} (ht : t < 14) (w : Wd) : f_X8_latestOf (nI t) w = some (w.1 14 t, w) := by
  unfold f_X8_latestOf
  rw [e_at (k := 14) (by decide) lay_14, Option.bind_some, atv_in ht (by decide)]
theorem e_tighten_2 {w : Wd} (h : Rel w) {k t : Nat} (hk : k ≤ 14) (ht : t < 14) : ∀ (n u : Nat), u ≤ 14 → 14 - u < n → f_X8_tighten_2 n (nI t) (ruX w t) (nI u) (yS w k (14 * t + u)) = some (yS w k (14 * t + 14)) := by
  intro n
  induction n with
  | zero => intro u _ h; omega
  | succ n ih =>
    intro u hu hn
    rw [f_X8_tighten_2]
    by_cases hu14 : u = 14
    · subst hu14
      rw [if_pos (by decide)]
    · have hu' : u < 14 := by omega
      have i1 := ih (u + 1) (by omega) (by omega)
      rw [← Nat.add_assoc] at i1
      rw [if_neg (n14 hu')]
      by_cases h0 : ruX w t = 0
      · rw [if_pos h0]
        have hz : ∀ j, u + j ≤ 14 → yS w k (14 * t + (u + j)) = yS w k (14 * t + u) := by
          intro j
          induction j with
          | zero => intro _; rfl
          | succ j ihj =>
            intro hj
            rw [← ihj (by omega)]
            exact yS_f (u := u + j) (by omega) (by rw [h0, b_0])
        have := hz (14 - u) (by omega)
        rw [show u + (14 - u) = 14 by omega] at this
        rw [this]
      · rw [if_neg h0, e_has _ (by omega), Option.bind_some]
        dsimp only
        rw [p1]
        cases hb : bt (ruX w t) u with
        | false =>
          rw [if_pos bz]
          rw [yS_f hu' hb] at i1
          exact i1
        | true =>
          have e1 : yS w k (14 * t + u + 1) = w2 w 13 14 (upd (rwL p14 (yLn w k (14 * t + u)) (w.1 13)) t (jmax (rwL p14 (yLn w k (14 * t + u)) (w.1 13) t) (rwL p14 (yLn w k (14 * t + u)) (w.1 13) u + 1))) (upd (rwH p14 (yMn w k (14 * t + u)) (w.1 14)) u (jmin (rwH p14 (yMn w k (14 * t + u)) (w.1 14) u) (rwH p14 (yMn w k (14 * t + u)) (w.1 14) t - 1))) := by
            unfold yS
            rw [yLn_s, yMn_s, pT_e hu', pU_e hu', stI_t (q := qX w) hb, stI_t (q := qY w) hb]
            rw [rwL_at (p14_t ht), rwL_at (p14_t hu'), rwH_at (p14_t ht), rwH_at (p14_t hu'), tI_mx (yLn_b h (by omega) (by omega)), tI_mn (yMn_b h (by omega) (by omega)), rwL_up (p14_t ht), rwH_up (p14_t hu')]
          rw [e1] at i1
          rw [if_neg bnz, e_earliest ht, Option.bind_some]
          dsimp only
          rw [e_earliest hu', Option.bind_some]
          dsimp only
          rw [e_put (k := 13) (by decide) lay_13, Option.bind_some, e_latest hu', Option.bind_some]
          dsimp only
          rw [e_latest ht, Option.bind_some]
          dsimp only
          rw [e_put (k := 14) (by decide) lay_14, Option.bind_some, ptv_in ht (by decide), ptv_in hu' (by decide), wA_n (k := 13) (a := 14) _ _ (by decide)]
          rw [show (yS w k (14 * t + u)).1 13 = rwL p14 (yLn w k (14 * t + u)) (w.1 13) from w2_a (by decide) _ _, show (yS w k (14 * t + u)).1 14 = rwH p14 (yMn w k (14 * t + u)) (w.1 14) from w2_b _ _]
          unfold yS
          rw [w2_w (by decide)]
          exact i1
theorem e_settle_38 {w : Wd} (h : Rel w) {k : Nat} (hk : k ≤ 14) (k30 : Int32 → Wd → Option (Int32 × Wd)) : ∀ (n t : Nat), t ≤ 14 → 14 - t < n → f_X8_settle_38 k30 n (nI k) (nI t) (yS w k (14 * t)) = k30 (nI (k + 1)) (yS w (k + 1) 0) := by
  intro n
  induction n with
  | zero => intro u _ h; omega
  | succ n ih =>
    intro t ht hn
    rw [f_X8_settle_38]
    by_cases ht14 : t = 14
    · subst ht14
      rw [if_pos (by decide), p1]
      show k30 _ (yS w k 196) = _
      rw [yS_k]
    · rw [if_neg (n14 (by omega)), e_right (by omega), Option.bind_some]
      dsimp only
      rw [show ruX (yS w k (14 * t)) t = ruX w t from ruX_w (w2_n (by decide) (by decide) _ _) (w2_n (by decide) (by decide) _ _) t]
      unfold f_X8_tighten
      have := e_tighten_2 h hk (show t < 14 by omega) fu 0 (by decide) (by decide)
      rw [Nat.add_zero] at this
      rw [show (0 : Int32) = nI 0 from rfl, this, Option.bind_some, p1]
      exact ih (t + 1) (by omega) (by omega)
def alB (P : Nat → Bool) : Nat → Bool
  | 0 => true
  | n + 1 => alB P n && P n
theorem alB_f {P : Nat → Bool} {i : Nat} (h : alB P i = false) : ∀ j, alB P (i + j) = false
  | 0 => h
  | j + 1 => by show (alB P (i + j) && _) = false; rw [alB_f h j, Bool.false_and]
theorem alB_cong {P Q : Nat → Bool} : ∀ {n : Nat}, (∀ k, k < n → P k = Q k) → alB P n = alB Q n
  | 0, _ => rfl
  | n + 1, h => by rw [alB, alB, h n (by omega), alB_cong (fun k hk => h k (by omega))]
def yP (v : Wd) (a b : Nat) (told : Int32) (t : Nat) : Bool := !(bt told t) || decide (v.1 a t ≤ v.1 b t)
theorem e_settle_71 {v : Wd} : ∀ (n i : Nat), i ≤ 14 → 14 - i < n → alB (yP v 13 14 (v.1 5 0)) i = true → f_X8_settle_71 n (nI i) v = some (b2i (alB (yP v 13 14 (v.1 5 0)) 14), v) := by
  intro n
  induction n with
  | zero => intro i _ h; omega
  | succ n ih =>
    intro i hi hn ha
    rw [f_X8_settle_71]
    by_cases h : i = 14
    · subst h
      rw [if_pos (by decide), ha]; rfl
    · have i1 := ih (i + 1) (by omega) (by omega)
      rw [alB, ha, Bool.true_and] at i1
      rw [if_neg (n14 (by omega)), e_isThing, Option.bind_some]
      dsimp only
      rw [show isT 13 (v.1 5 0) (nI i) = bt (v.1 5 0) i from nI_isT (n := 13) (by omega) (by decide), p1]
      unfold yP at i1
      cases hb : bt (v.1 5 0) i with
      | false =>
        rw [if_pos bz]
        exact i1 (by rw [hb]; rfl)
      | true =>
        rw [if_neg bnz, e_earliest (by omega), Option.bind_some]
        dsimp only
        rw [e_latest (by omega), Option.bind_some]
        dsimp only
        by_cases hle : v.1 13 i ≤ v.1 14 i
        · rw [if_pos hle]
          exact i1 (by rw [hb, decide_eq_true hle]; rfl)
        · rw [if_neg hle]
          have : alB (yP v 13 14 (v.1 5 0)) (i + 1) = false := by
            rw [alB, ha]; unfold yP; rw [hb, decide_eq_false hle]; rfl
          have := alB_f this (13 - i)
          rw [show i + 1 + (13 - i) = 14 by omega] at this
          rw [this]; rfl
theorem e_settle_30 {w : Wd} (h : Rel w) : ∀ (n k : Nat), k ≤ 14 → 14 - k < n → f_X8_settle_30 n (nI k) (yS w k 0) = some (b2i (alB (yP (yS w 14 0) 13 14 (w.1 5 0)) 14), yS w 14 0) := by
  intro n
  induction n with
  | zero => intro u _ h; omega
  | succ n ih =>
    intro k hk hn
    rw [f_X8_settle_30]
    by_cases hk14 : k = 14
    · subst hk14
      rw [if_pos (by decide)]
      have := e_settle_71 (v := yS w 14 0) fu 0 (by decide) (by decide) rfl
      rw [show (yS w 14 0).1 5 = w.1 5 from w2_n (by decide) (by decide) _ _] at this
      exact this
    · rw [if_neg (n14 (by omega))]
      have := e_settle_38 h hk (f_X8_settle_30 n) fu 0 (by decide) (by decide)
      exact this.trans (ih (k + 1) (by omega) (by omega))
theorem yS_00 (w : Wd) : w2 w 13 14 (pfR (yF w) (w.1 13) 14) (pfR (yG w) (w.1 14) 14) = yS w 0 0 := by
  unfold yS
  congr 1
  · funext j
    unfold pfR rwL p14
    by_cases h : j < 14
    · rw [if_pos h, decide_eq_true h, if_pos rfl]
      show _ = tI (L0 w j)
      unfold L0; rw [if_pos h, tI_of]
    · rw [if_neg h, decide_eq_false h, if_neg (by decide)]
  · funext j
    unfold pfR rwH p14
    by_cases h : j < 14
    · rw [if_pos h, decide_eq_true h, if_pos rfl]
      show _ = tI (-(M0 w j))
      unfold M0; rw [if_pos h, Int.neg_neg, tI_of]
    · rw [if_neg h, decide_eq_false h, if_neg (by decide)]
theorem e_settle_11 {w : Wd} (h : Rel w) : ∀ (n i : Nat), i ≤ 14 → 14 - i < n → f_X8_settle_11 n (nI i) (w2 w 13 14 (pfR (yF w) (w.1 13) i) (pfR (yG w) (w.1 14) i)) = some (b2i (alB (yP (yS w 14 0) 13 14 (w.1 5 0)) 14), yS w 14 0) := by
  intro n
  induction n with
  | zero => intro u _ h; omega
  | succ n ih =>
    intro i hi hn
    rw [f_X8_settle_11]
    by_cases h14 : i = 14
    · subst h14
      rw [if_pos (by decide), yS_00]
      exact e_settle_30 h fu 0 (by decide) (by decide)
    · rw [if_neg (n14 (by omega)), e_take (by omega), Option.bind_some, pfR_s, pfR_s, p1]
      exact ih (i + 1) (by omega) (by omega)
/-- the spans -/
def yL (w : Wd) (t : Nat) : Int := yLn w 14 0 t
def yH (w : Wd) (t : Nat) : Int := -(yMn w 14 0 t)
def yOK (w : Wd) : Bool := decide (rgX w = 0) && alB (fun t => !(bt (w.1 5 0) t) || decide (yL w t ≤ yH w t)) 14
theorem yF_s {w v : Wd} (s : sim w v) : yF v = yF w ∧ yG v = yG w := by
  have r : ∀ k, (∀ j, sc k j = false) → v.1 k = w.1 k := fun k hk => s.row k hk
  have e1 : ftS v = ftS w := by
    funext t
    unfold ftS tms tmv
    rw [r 5 (fun _ => rfl), r 6 (fun _ => rfl), r 11 (fun _ => rfl)]
  have e2 : fF v = fF w := by
    funext s k
    induction k with
    | zero => rfl
    | succ k ih => rw [fF, fF, ih, r 11 (fun _ => rfl)]
  have e3 : fL v = fL w := by
    funext s k
    induction k with
    | zero => rfl
    | succ k ih => rw [fL, fL, ih, r 11 (fun _ => rfl)]
  constructor
  · funext t; unfold yF; rw [e1, e2, r 8 (fun _ => rfl)]
  · funext t; unfold yG; rw [e1, e3, r 9 (fun _ => rfl)]
theorem yLn_sim {w v : Wd} (s : sim w v) (k n : Nat) : yLn v k n = yLn w k n := by
  have e : qX v = qX w := by funext t u; unfold qX; rw [ruX_w (s.row 5 (fun _ => rfl)) (s.row 10 (fun _ => rfl))]
  have e2 : L0 v = L0 w := by funext t; unfold L0; rw [(yF_s s).1]
  unfold yLn; rw [e, e2]
theorem yMn_sim {w v : Wd} (s : sim w v) (k n : Nat) : yMn v k n = yMn w k n := by
  have e : qY v = qY w := by funext t u; unfold qY; rw [ruX_w (s.row 5 (fun _ => rfl)) (s.row 10 (fun _ => rfl))]
  have e2 : M0 v = M0 w := by funext t; unfold M0; rw [(yF_s s).2]
  unfold yMn; rw [e, e2]
theorem yL_sim {w v : Wd} (s : sim w v) : yL v = yL w := by funext t; unfold yL; rw [yLn_sim s]
theorem yH_sim {w v : Wd} (s : sim w v) : yH v = yH w := by funext t; unfold yH; rw [yMn_sim s]
theorem yOK_sim {w v : Wd} (s : sim w v) : yOK v = yOK w := by unfold yOK; rw [yL_sim s, yH_sim s, rgX_sim s, s 5 0 rfl]
theorem yL_b {w : Wd} (h : Rel w) (t : Nat) : -10000 ≤ yL w t ∧ yL w t ≤ 10000 := yLn_b h (by decide) (by decide) t
theorem yH_b {w : Wd} (h : Rel w) (t : Nat) : -10000 ≤ yH w t ∧ yH w t ≤ 10000 := by have := yMn_b h (k := 14) (n := 0) (by decide) (by decide) t; unfold yH; omega
theorem sim_w2 {w : Wd} {a b : Nat} (ha : ∀ j, sc a j = true) (hb : ∀ j, sc b j = true) (A B : Nat → Int32) : sim w (w2 w a b A B) := ((sim.rf w).wA A (fun j e => by rw [ha j] at e; cases e)).wA B (fun j e => by rw [hb j] at e; cases e)
theorem e_settle {w : Wd} (h : Rel w) : ∃ v, f_X8_settle w = some (b2i (yOK w), v) ∧ sim w v ∧ (yOK w = true → ∀ t, t < 14 → v.1 13 t = tI (yL w t) ∧ v.1 14 t = tI (yH w t)) := by
  unfold f_X8_settle
  rw [e_ringed, Option.bind_some]
  dsimp only
  have s1 : sim w (wA w 15 (clR w)) := sim15 _
  by_cases hg : rgX w = 0
  · rw [if_pos hg]
    have := e_settle_11 (h.sim s1) fu 0 (by decide) (by decide)
    rw [pfR_0, pfR_0, w2_self _ (by decide)] at this
    have hrow : ∀ t, t < 14 → (yS (wA w 15 (clR w)) 14 0).1 13 t = tI (yL w t) ∧ (yS (wA w 15 (clR w)) 14 0).1 14 t = tI (yH w t) := by
      intro t ht
      constructor
      · rw [show (yS (wA w 15 (clR w)) 14 0).1 13 = _ from w2_a (by decide) _ _, rwL_at (p14_t ht), yLn_sim s1]; rfl
      · rw [show (yS (wA w 15 (clR w)) 14 0).1 14 = _ from w2_b _ _, rwH_at (p14_t ht), yMn_sim s1]; rfl
    have e : alB (yP (yS (wA w 15 (clR w)) 14 0) 13 14 ((wA w 15 (clR w)).1 5 0)) 14 = yOK w := by
      unfold yOK
      rw [decide_eq_true hg, Bool.true_and]
      refine alB_cong (fun t ht => ?_)
      unfold yP
      obtain ⟨e1, e2⟩ := hrow t ht
      have b1 := yL_b h t
      have b2 := yH_b h t
      rw [e1, e2, wA_n _ _ (by decide)]
      congr 1
      rw [decide_eq_decide]
      rw [tI_le (by unfold smI; omega) (by unfold smI; omega)]
    rw [e] at this
    exact ⟨_, this, s1.tr (sim_w2 (fun _ => rfl) (fun _ => rfl) _ _), fun _ => hrow⟩
  · rw [if_neg hg]
    have : yOK w = false := by unfold yOK; rw [decide_eq_false hg, Bool.false_and]
    rw [this]
    exact ⟨_, rfl, s1, fun z => by cases z⟩
