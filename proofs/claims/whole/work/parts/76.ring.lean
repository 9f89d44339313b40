/-! the reference's closing; ring, over -/
def mdI (R : Nat → Int32) (t : Nat) : Nat → (Nat → Int32)
  | 0 => R
  | u + 1 => if bt (mdI R t u t) u then upd (mdI R t u) t (mdI R t u t ||| mdI R t u u) else mdI R t u
def mdT (R : Nat → Int32) : Nat → (Nat → Int32)
  | 0 => R
  | t + 1 => mdI (mdT R t) t 14
def mdA (R : Nat → Int32) : Nat → (Nat → Int32)
  | 0 => R
  | k + 1 => mdT (mdA R k) 14
theorem mdI_sub (R : Nat → Int32) (t : Nat) {a b : Nat} (m : Nat) : ∀ n, rl (mdI R t m) a b → rl (mdI R t (m + n)) a b
  | 0, h => h
  | n + 1, h => by
    have ih := mdI_sub R t (a := a) (b := b) m n h
    show rl (mdI R t (m + n + 1)) a b
    rw [mdI]
    split
    · show bt (upd (mdI R t (m + n)) t _ a) b = true
      unfold upd
      by_cases e : a = t
      · subst e; rw [if_pos rfl, b_or, ih, Bool.true_or]
      · rw [if_neg e]; exact ih
    · exact ih
theorem mdT_sub (R : Nat → Int32) {a b : Nat} (m : Nat) : ∀ n, rl (mdT R m) a b → rl (mdT R (m + n)) a b
  | 0, h => h
  | n + 1, h => by
    have ih := mdT_sub R (a := a) (b := b) m n h
    have := mdI_sub (mdT R (m + n)) (m + n) (a := a) (b := b) 0 14 ih
    rw [Nat.zero_add] at this
    exact this
theorem mdI_least (R : Nat → Int32) {t : Nat} (ht : t < 14) (T : Nat → Nat → Prop) (hT : ∀ a b c, T a b → T b c → T a c) (hR : ∀ u, u < 14 → ∀ v, rl R u v → T u v) : ∀ n, n ≤ 14 → ∀ u, u < 14 → ∀ v, rl (mdI R t n) u v → T u v
  | 0, _, u, hu, v, h => hR u hu v h
  | n + 1, hn, u, hu, v, h => by
    have ih := mdI_least R ht T hT hR n (by omega)
    rw [rl, mdI] at h
    split at h
    · rename_i hb
      unfold upd at h
      by_cases e : u = t
      · subst e
        rw [if_pos rfl, b_or, Bool.or_eq_true] at h
        rcases h with h | h
        · exact ih u hu v h
        · exact hT u n v (ih u hu n hb) (ih n (by omega) v h)
      · rw [if_neg e] at h; exact ih u hu v h
    · exact ih u hu v h
theorem mdT_least (R : Nat → Int32) (T : Nat → Nat → Prop) (hT : ∀ a b c, T a b → T b c → T a c) (hR : ∀ u, u < 14 → ∀ v, rl R u v → T u v) : ∀ n, n ≤ 14 → ∀ u, u < 14 → ∀ v, rl (mdT R n) u v → T u v
  | 0, _ => hR
  | n + 1, hn => mdI_least (mdT R n) (by omega) T hT (mdT_least R T hT hR n (by omega)) 14 (Nat.le_refl _)
theorem mdA_least (R : Nat → Int32) (T : Nat → Nat → Prop) (hT : ∀ a b c, T a b → T b c → T a c) (hR : ∀ u, u < 14 → ∀ v, rl R u v → T u v) : ∀ n, ∀ u, u < 14 → ∀ v, rl (mdA R n) u v → T u v
  | 0 => hR
  | n + 1 => mdT_least (mdA R n) T hT (mdA_least R T hT hR n) 14 (Nat.le_refl _)
/-- one turn goes one step on -/
theorem mdT_step (R : Nat → Int32) {u x v : Nat} (hu : u < 14) (hx : x < 14) (h1 : rl R u x) (h2 : rl R x v) : rl (mdT R 14) u v := by
  have a1 : rl (mdT R u) u x := by have := mdT_sub R (a := u) (b := x) 0 u h1; simpa using this
  have a2 : rl (mdT R u) x v := by have := mdT_sub R (a := x) (b := v) 0 u h2; simpa using this
  have b1 : rl (mdI (mdT R u) u x) u x := by have := mdI_sub (mdT R u) u (a := u) (b := x) 0 x a1; simpa using this
  have b2 : rl (mdI (mdT R u) u x) x v := by have := mdI_sub (mdT R u) u (a := x) (b := v) 0 x a2; simpa using this
  have c : rl (mdI (mdT R u) u (x + 1)) u v := by
    rw [rl, mdI, if_pos b1]
    unfold upd
    rw [if_pos rfl, b_or, b2, Bool.or_true]
  have d : rl (mdI (mdT R u) u 14) u v := by
    have := mdI_sub (mdT R u) u (a := u) (b := v) (x + 1) (13 - x) c
    rw [show x + 1 + (13 - x) = 14 by omega] at this
    exact this
  have e : rl (mdT R (u + 1)) u v := d
  have := mdT_sub R (a := u) (b := v) (u + 1) (13 - u) e
  rw [show u + 1 + (13 - u) = 14 by omega] at this
  exact this
theorem exB_iff {q : Nat → Bool} : ∀ {n : Nat}, exB q n = true ↔ ∃ x, x < n ∧ q x = true
  | 0 => by simp [exB]
  | n + 1 => by
    rw [exB, Bool.or_eq_true, exB_iff (n := n)]
    constructor
    · rintro (⟨x, h, e⟩ | e)
      · exact ⟨x, by omega, e⟩
      · exact ⟨n, by omega, e⟩
    · rintro ⟨x, h, e⟩
      by_cases hx : x = n
      · subst hx; exact Or.inr e
      · exact Or.inl ⟨x, by omega, e⟩
theorem exB_cong {p q : Nat → Bool} : ∀ {n : Nat}, (∀ x, x < n → p x = q x) → exB p n = exB q n
  | 0, _ => rfl
  | n + 1, h => by rw [exB, exB, h n (by omega), exB_cong (fun x hx => h x (by omega))]
/-- ways of at most k + 1 steps -/
def pB (R : Nat → Int32) : Nat → Nat → Nat → Bool
  | 0, u, v => bt (R u) v
  | k + 1, u, v => pB R k u v || exB (fun x => bt (R u) x && pB R k x v) 14
theorem pB_sub (R : Nat → Int32) {u v k : Nat} (h : pB R k u v = true) : ∀ n, pB R (k + n) u v = true
  | 0 => h
  | n + 1 => by
    show (pB R (k + n) u v || _) = true
    rw [pB_sub R h n, Bool.true_or]
theorem mdA_pB (R : Nat → Int32) : ∀ k, ∀ u, u < 14 → ∀ v, pB R k u v = true → rl (mdA R k) u v
  | 0, u, _, v, h => h
  | k + 1, u, hu, v, h => by
    have ih := mdA_pB R k
    have base : ∀ k a b, a < 14 → rl R a b → rl (mdA R k) a b := by
      intro k
      induction k with
      | zero => intro a b _ h; exact h
      | succ k ih2 =>
        intro a b ha h
        have := mdT_sub (mdA R k) (a := a) (b := b) 0 14 (ih2 a b ha h)
        rw [Nat.zero_add] at this
        exact this
    rw [pB, Bool.or_eq_true] at h
    rcases h with h | h
    · have := mdT_sub (mdA R k) (a := u) (b := v) 0 14 (ih u hu v h)
      rw [Nat.zero_add] at this
      exact this
    · obtain ⟨x, hx, e⟩ := exB_iff.mp h
      rw [Bool.and_eq_true] at e
      exact mdT_step (mdA R k) hu hx (base k u x hu e.1) (ih x hx v e.2)
def stbP (R : Nat → Int32) (v k : Nat) : Prop := ∀ u, u < 14 → pB R (k + 1) u v = pB R k u v
theorem stbP_s {R : Nat → Int32} {v k : Nat} (h : stbP R v k) : stbP R v (k + 1) := by
  intro u hu
  have e : exB (fun x => bt (R u) x && pB R (k + 1) x v) 14 = exB (fun x => bt (R u) x && pB R k x v) 14 := exB_cong (fun x hx => by rw [h x hx])
  show (pB R (k + 1) u v || exB (fun x => bt (R u) x && pB R (k + 1) x v) 14) = pB R (k + 1) u v
  rw [e]
  show ((pB R k u v || exB (fun x => bt (R u) x && pB R k x v) 14) || exB (fun x => bt (R u) x && pB R k x v) 14) = (pB R k u v || exB (fun x => bt (R u) x && pB R k x v) 14)
  rw [Bool.or_assoc, Bool.or_self]
theorem stbP_a {R : Nat → Int32} {v k : Nat} (h : stbP R v k) : ∀ n, stbP R v (k + n)
  | 0 => h
  | n + 1 => stbP_s (stbP_a h n)
theorem ct_eq {p q : Nat → Bool} : ∀ {n : Nat}, (∀ k, k < n → p k = true → q k = true) → fb_ct q n ≤ fb_ct p n → ∀ k, k < n → q k = p k
  | 0, _, _, k, hk => by omega
  | n + 1, h, hc, k, hk => by
    have hs := fb_ct_sub (p := p) (q := q) (n := n) (fun k hk => h k (by omega))
    rw [fb_ct_succ, fb_ct_succ] at hc
    have hn := h n (by omega)
    have key : q n = p n := by
      cases hp : p n <;> cases hq : q n
      · rfl
      · rw [hp, hq] at hc; simp at hc; omega
      · rw [hn hp] at hq; cases hq
      · rfl
    by_cases e : k = n
    · subst e; exact key
    · refine ct_eq (n := n) (fun k hk => h k (by omega)) ?_ k (by omega)
      rw [key] at hc; omega
theorem stbP_14 (R : Nat → Int32) (v : Nat) : stbP R v 14 := by
  have C : ∀ k, (∃ j, j < k ∧ stbP R v j) ∨ k ≤ fb_ct (fun u => pB R k u v) 14 := by
    intro k
    induction k with
    | zero => exact Or.inr (Nat.zero_le _)
    | succ k ih =>
      rcases ih with ⟨j, hj, h⟩ | h
      · exact Or.inl ⟨j, by omega, h⟩
      · by_cases hs : stbP R v k
        · exact Or.inl ⟨k, by omega, hs⟩
        · right
          apply Classical.byContradiction
          intro hlt
          apply hs
          intro u hu
          exact ct_eq (p := fun u => pB R k u v) (q := fun u => pB R (k + 1) u v) (n := 14) (fun u _ hu => pB_sub R hu 1) (by omega) u hu
  rcases C 15 with ⟨j, hj, h⟩ | h
  · have := stbP_a h (14 - j)
    rw [show j + (14 - j) = 14 by omega] at this
    exact this
  · have := fb_ct_le (fun u => pB R 15 u v) 14
    omega
theorem pB_trans (R : Nat → Int32) {v : Nat} : ∀ k, ∀ u, u < 14 → ∀ x, x < 14 → pB R k u x = true → pB R 14 x v = true → pB R 14 u v = true
  | 0, u, hu, x, hx, h1, h2 => by
    rw [← stbP_14 R v u hu, pB, Bool.or_eq_true]
    exact Or.inr (exB_iff.mpr ⟨x, hx, by rw [Bool.and_eq_true]; exact ⟨h1, h2⟩⟩)
  | k + 1, u, hu, x, hx, h1, h2 => by
    rw [pB, Bool.or_eq_true] at h1
    rcases h1 with h1 | h1
    · exact pB_trans R k u hu x hx h1 h2
    · obtain ⟨y, hy, e⟩ := exB_iff.mp h1
      rw [Bool.and_eq_true] at e
      have := pB_trans R k y hy x hx e.2 h2
      exact pB_trans R 0 u hu y hy e.1 this
/-- the two ways come to one -/
theorem close_eq {R : Nat → Int32} (h14 : r14 R) {u : Nat} (hu : u < 14) : mdA R 14 u = wsO R 14 u := by
  apply b_ext
  intro v _
  rw [Bool.eq_iff_iff]
  constructor
  · intro h
    exact (mdA_least R (fun a b => a < 14 ∧ rl (wsO R 14) a b) (fun a b c h1 h2 => ⟨h1.1, wsO_trans h14 h1.1 h1.2 h2.2⟩) (fun a ha b hb => ⟨ha, wsO_sub R ha hb 14⟩) 14 u hu v h).2
  · intro h
    refine mdA_pB R 14 u hu v ?_
    exact (wsO_least R (fun a b => a < 14 ∧ pB R 14 a b = true) (fun a b c h1 h2 => ⟨h1.1, pB_trans R 14 a h1.1 b h2.1 h1.2 h2.2⟩) (fun a ha b hb => ⟨ha, by have := pB_sub R (k := 0) (u := a) (v := b) hb 14; simpa using this⟩) 14 (Nat.le_refl _) u hu v h).2
theorem m_reach_61 {w : Wd} {t : Nat} (ht : t < 14) (R : Nat → Int32) (x1 : Int32) (k45 : Int32 → Wd → Option Wd) (k53 : Int32 → Int32 → Wd → Option Wd) : ∀ (n u : Nat), u ≤ 14 → 14 - u < n → f_X10_findReach_61 k45 k53 n x1 (nI t) (nI u) (wA w 42 (mdI R t u)) = k53 x1 (nI (t + 1)) (wA w 42 (mdI R t 14)) := by
  intro n
  induction n with
  | zero => intro i _ h; omega
  | succ n ih =>
    intro u hu hn
    rw [f_X10_findReach_61]
    by_cases h : u = 14
    · subst h
      rw [if_pos (by decide), p1]
    · have hu14 : u < 14 := by omega
      have i1 := ih (u + 1) (by omega) (by omega)
      simp only [if_neg (n14 hu14), inB_nI ht (show 14 < 2 ^ 31 by decide), inB_nI hu14 (show 14 < 2 ^ 31 by decide), ix_nI (show t < 2 ^ 31 by omega), ix_nI (show u < 2 ^ 31 by omega), if_true, wA_s, wA_wA, p1, bit1 (mdI R t u t) (show u < 32 by omega), b2i_1, or_0]
      rw [mdI] at i1
      by_cases hb : bt (mdI R t u t) u = true
      · rw [if_pos hb] at i1 ⊢
        exact i1
      · rw [if_neg hb] at i1 ⊢
        rw [fa_upd_same rfl]
        exact i1
theorem m_reach_53 {w : Wd} (R : Nat → Int32) (x : Nat) (k45 : Int32 → Wd → Option Wd) : ∀ (n t : Nat), t ≤ 14 → 14 - t < n → f_X10_findReach_53 k45 n (nI x) (nI t) (wA w 42 (mdT R t)) = k45 (nI (x + 1)) (wA w 42 (mdT R 14)) := by
  intro n
  induction n with
  | zero => intro i _ h; omega
  | succ n ih =>
    intro t ht hn
    rw [f_X10_findReach_53]
    by_cases h : t = 14
    · subst h
      rw [if_pos (by decide), p1]
    · rw [if_neg (n14 (by omega))]
      have := m_reach_61 (w := w) (t := t) (by omega) (mdT R t) (nI x) k45 (f_X10_findReach_53 k45 n) fu 0 (by decide) (by decide)
      exact this.trans (ih (t + 1) (by omega) (by omega))
theorem m_reach_45 {w : Wd} (R : Nat → Int32) : ∀ (n k : Nat), k ≤ 14 → 14 - k < n → f_X10_findReach_45 n (nI k) (wA w 42 (mdA R k)) = some (wA w 42 (mdA R 14)) := by
  intro n
  induction n with
  | zero => intro i _ h; omega
  | succ n ih =>
    intro k hk hn
    rw [f_X10_findReach_45]
    by_cases h : k = 14
    · subst h
      rw [if_pos (by decide)]
    · rw [if_neg (n14 (by omega))]
      have := m_reach_53 (w := w) (mdA R k) k (f_X10_findReach_45 n) fu 0 (by decide) (by decide)
      exact this.trans (ih (k + 1) (by omega) (by omega))
theorem m_reach_2 {w : Wd} (ht : w.1 33 0 = w.1 5 0) (hu : w.1 41 = w.1 10) (f : Nat → Int32) : ∀ (n i : Nat), i ≤ 14 → 14 - i < n → f_X10_findReach_2 n (nI i) (wA w 42 (ruR w f i)) = some (wA w 42 (mdA (ruR w f 14) 14)) := by
  intro n
  induction n with
  | zero => intro i _ h; omega
  | succ n ih =>
    intro i hi hn
    rw [f_X10_findReach_2]
    by_cases h : i = 14
    · subst h
      rw [if_pos (by decide)]
      exact m_reach_45 (ruR w f 14) fu 0 (by decide) (by decide)
    · have i1 := ih (i + 1) (by omega) (by omega)
      rw [if_neg (n14 (by omega)), m_isThing, Option.bind_some]
      simp only [wA_n (k := 42) (a := 33) _ _ (by decide), wA_n (k := 42) (a := 41) _ _ (by decide), ht, hu, inB_nI (show i < 14 by omega) (show 14 < 2 ^ 31 by decide), ix_nI (show i < 2 ^ 31 by omega), if_true, wA_s, wA_wA, p1, b2i_0]
      rw [show isT 13 (w.1 5 0) (nI i) = bt (w.1 5 0) i from nI_isT (n := 13) (by omega) (by decide)]
      rw [← ruR_s] at i1
      unfold ruX at i1
      cases hb : bt (w.1 5 0) i with
      | false =>
        rw [if_pos rfl]
        rw [hb] at i1
        exact i1
      | true =>
        rw [if_neg (by decide)]
        rw [hb] at i1
        exact i1
/-- the reference's closed rows -/
def rcR (w : Wd) : Nat → Int32 := mdA (ruR w (w.1 42) 14) 14
theorem m_reach {w : Wd} (ht : w.1 33 0 = w.1 5 0) (hu : w.1 41 = w.1 10) : f_X10_findReach w = some (wA w 42 (rcR w)) := by
  unfold f_X10_findReach
  have := m_reach_2 ht hu (w.1 42) fu 0 (by decide) (by decide)
  have z : ruR w (w.1 42) 0 = w.1 42 := by funext j; unfold ruR; rw [if_neg (by omega)]
  rw [z, wA_self] at this
  exact this
/-- rows that agree on the first fourteen close alike there -/
theorem wsI_cong {R S : Nat → Int32} (m : Nat) (hm : m < 14) (h : ∀ u, u < 14 → R u = S u) {u : Nat} (hu : u < 14) : wsI m R 14 u = wsI m S 14 u := by
  rw [wsI_eq, wsI_eq]
  dsimp only
  rw [h u hu, h m hm]
theorem wsO_cong {R S : Nat → Int32} (h : ∀ u, u < 14 → R u = S u) : ∀ n, n ≤ 14 → ∀ u, u < 14 → wsO R n u = wsO S n u
  | 0, _ => h
  | n + 1, hn => fun u hu => wsI_cong n (by omega) (wsO_cong h n (by omega)) hu
def ru0 (w : Wd) : Nat → Int32 := ruR w (fun _ => 0) 14
theorem ruR_c (w : Wd) (f g : Nat → Int32) {u : Nat} (hu : u < 14) : ruR w f 14 u = ruR w g 14 u := by unfold ruR; rw [if_pos hu, if_pos hu]
/-- what lies over what, told or by others -/
def ovX (w : Wd) : Nat → Int32 := wsO (ru0 w) 14
theorem bt_ru (w : Wd) (t v : Nat) : bt (ruX w t) v = (bt (w.1 5 0) t && (bt (w.1 10 t) v && bt (w.1 5 0) v)) := by
  unfold ruX
  cases bt (w.1 5 0) t with
  | false => exact b_0 v
  | true => exact b_and _ _ _
theorem r14_ru {w : Wd} (h : Rel w) (f : Nat → Int32) : r14 (ruR w f 14) := by
  intro u hu v hv
  unfold ruR at hv
  rw [rl, if_pos hu, bt_ru, Bool.and_eq_true, Bool.and_eq_true] at hv
  rcases Nat.lt_or_ge v 14 with q | q
  · exact q
  · rw [h.n.1 v q] at hv; cases hv.2.2
theorem clR_ov {w : Wd} {u : Nat} (hu : u < 14) : clR w u = ovX w u := wsO_cong (fun u hu => ruR_c w _ _ hu) 14 (Nat.le_refl _) u hu
theorem rcR_ov {w : Wd} (h : Rel w) {u : Nat} (hu : u < 14) : rcR w u = ovX w u := by
  unfold rcR
  rw [close_eq (r14_ru h _) hu]
  exact wsO_cong (fun u hu => ruR_c w _ _ hu) 14 (Nat.le_refl _) u hu
/-- the ring -/
def rgX (w : Wd) : Int32 := orS (fun t => bt (ovX w t) t) 0 14
theorem e_ringed_8 {w : Wd} {R : Nat → Int32} (hR : w.1 15 = R) : ∀ (n i : Nat), i ≤ 14 → 14 - i < n → f_X8_ringed_8 n (orS (fun t => bt (R t) t) 0 i) (nI i) w = some (orS (fun t => bt (R t) t) 0 14, w) := by
  intro n
  induction n with
  | zero => intro i _ h; omega
  | succ n ih =>
    intro i hi hn
    rw [f_X8_ringed_8]
    by_cases h : i = 14
    · subst h
      rw [if_pos (by decide)]
    · have i1 := ih (i + 1) (by omega) (by omega)
      rw [if_neg (n14 (by omega)), e_at (k := 15) (by decide) lay_15, Option.bind_some, atv_in (by omega) (by decide), hR]
      dsimp only
      rw [e_has _ (by omega), Option.bind_some]
      dsimp only
      rw [p1]
      rw [orS_add] at i1
      cases hb : bt (R i) i with
      | false =>
        rw [if_pos bz]
        rw [hb, show bitIf false i = 0 from rfl, or_0] at i1
        exact i1
      | true =>
        rw [if_neg bnz]
        rw [hb] at i1
        exact i1
theorem e_ringed (w : Wd) : f_X8_ringed w = some (rgX w, wA w 15 (clR w)) := by
  unfold f_X8_ringed
  rw [e_close, Option.bind_some]
  have := e_ringed_8 (w := wA w 15 (clR w)) (R := clR w) (wA_s _ _ _) fu 0 (by decide) (by decide)
  rw [show orS (fun t => bt (clR w t) t) 0 14 = rgX w from orS_cong (fun k hk => by rw [Nat.zero_add, clR_ov hk])] at this
  exact this
theorem and_bit (x : Int32) {t : Nat} (ht : t < 32) : x &&& jshl 1 (nI t) = bitIf (bt x t) t := by
  have e0 : ∀ i, i < 32 → bt (jshl 1 (nI t)) i = decide (i = t) := by
    intro i hi
    have := bt_one 0 ht hi
    rw [b_or, b_0, Bool.false_or, Bool.false_or] at this
    exact this
  apply b_ext
  intro i hi
  rw [b_and, e0 i hi]
  unfold bitIf
  by_cases h : i = t
  · subst h
    cases hb : bt x i
    · simp [b_0]
    · simp [e0 i hi]
  · rw [decide_eq_false h, Bool.and_false]
    split
    · rw [e0 i hi, decide_eq_false h]
    · rw [b_0]
theorem m_ringOf_8 {w : Wd} {R : Nat → Int32} (hR : w.1 42 = R) : ∀ (n i : Nat), i ≤ 14 → 14 - i < n → f_X10_ringOf_8 n (orS (fun t => bt (R t) t) 0 i) (nI i) w = some (orS (fun t => bt (R t) t) 0 14, w) := by
  intro n
  induction n with
  | zero => intro i _ h; omega
  | succ n ih =>
    intro i hi hn
    rw [f_X10_ringOf_8]
    by_cases h : i = 14
    · subst h
      rw [if_pos (by decide)]
    · have i1 := ih (i + 1) (by omega) (by omega)
      simp only [if_neg (n14 (show i < 14 by omega)), inB_nI (show i < 14 by omega) (show 14 < 2 ^ 31 by decide), ix_nI (show i < 2 ^ 31 by omega), if_true, hR, p1, and_bit (R i) (show i < 32 by omega)]
      rw [orS_add] at i1
      exact i1
theorem m_ringOf {w : Wd} (h : Rel w) : f_X10_ringOf w = some (rgX w, wA w 42 (rcR w)) := by
  unfold f_X10_ringOf
  rw [m_reach h.told h.e.2.2.2.2.2.2.2.2.2.2.1, Option.bind_some]
  have := m_ringOf_8 (w := wA w 42 (rcR w)) (R := rcR w) (wA_s _ _ _) fu 0 (by decide) (by decide)
  rw [show orS (fun t => bt (rcR w t) t) 0 14 = rgX w from orS_cong (fun k hk => by rw [Nat.zero_add, rcR_ov h hk])] at this
  exact this
theorem ru0_sim {w v : Wd} (s : sim w v) : ru0 v = ru0 w := by
  funext j
  unfold ru0 ruR
  rw [ruX_w (w := w) (funext fun j => s 5 j rfl) (s.row 10 (fun _ => rfl))]
theorem ovX_sim {w v : Wd} (s : sim w v) : ovX v = ovX w := by unfold ovX; rw [ru0_sim s]
theorem rgX_sim {w v : Wd} (s : sim w v) : rgX v = rgX w := by unfold rgX; rw [ovX_sim s]
theorem sim15 {w : Wd} (f : Nat → Int32) : sim w (wA w 15 f) := (sim.rf w).wA f (fun j e => by cases e)
theorem sim42 {w : Wd} (f : Nat → Int32) : sim w (wA w 42 f) := (sim.rf w).wA f (fun j e => by cases e)
theorem op_ring {w : Wd} (h : Rel w) : Agree f_X9_ring f_X10_ring w := by
  refine Agree.ask (a := rgX w) h ⟨_, by unfold f_X9_ring; rw [e_ringed, Option.bind_some], sim15 _⟩ (fun v hv s => ⟨wA v 42 (rcR v), ?_, sim42 _⟩)
  unfold f_X10_ring
  rw [m_ringOf hv, Option.bind_some, rgX_sim s]
theorem op_over (p0 p1' : Int32) {w : Wd} (h : Rel w) : Agree (f_X9_over p0 p1') (f_X10_over p0 p1') w := by
  cases h1 : isT 13 (w.1 5 0) p0 with
  | false =>
    refine ⟨-2, w, w, ?_, ?_, h⟩
    · unfold f_X9_over; rw [e_isThing, Option.bind_some, h1]; rfl
    · unfold f_X10_over; rw [m_isThing, Option.bind_some, h.told, h1]; rfl
  | true =>
    cases h2 : isT 13 (w.1 5 0) p1' with
    | false =>
      refine ⟨-2, w, w, ?_, ?_, h⟩
      · unfold f_X9_over; rw [e_isThing, Option.bind_some, h1, e_isThing, if_neg bnz, Option.bind_some]; dsimp only; rw [h2]; rfl
      · unfold f_X10_over; rw [m_isThing, Option.bind_some, h.told, h1, m_isThing, if_neg bnz, Option.bind_some]; dsimp only; rw [h.told, h2]; rfl
    | true =>
      obtain ⟨t, ht, rfl, -⟩ := isT_nI (n := 13) (by decide) h1
      obtain ⟨u, hu, rfl, -⟩ := isT_nI (n := 13) (by decide) h2
      refine Agree.ask (a := b2i (bt (ovX w t) u)) h ⟨wA w 15 (clR w), ?_, sim15 _⟩ (fun v hv s => ⟨wA v 42 (rcR v), ?_, sim42 _⟩)
      · unfold f_X9_over f_X8_liesOverByOthers
        rw [e_isThing, Option.bind_some, h1, e_isThing, if_neg bnz, Option.bind_some]
        dsimp only
        rw [h2, if_neg bnz, e_close, Option.bind_some, e_at (k := 15) (by decide) lay_15, Option.bind_some, atv_in (by omega) (by decide), wA_s]
        dsimp only
        rw [e_has _ (by omega), clR_ov (by omega)]
        simp only [Option.bind_some, b2i_bo, if_true, e_oneIf]
      · unfold f_X10_over
        have e5 : v.1 5 0 = w.1 5 0 := s 5 0 rfl
        rw [m_isThing, Option.bind_some, hv.told, e5, h1, m_isThing, if_neg bnz, Option.bind_some]
        dsimp only
        rw [hv.told, e5, h2, if_neg bnz, m_reach hv.told hv.e.2.2.2.2.2.2.2.2.2.2.1, Option.bind_some]
        rw [inB_nI (by omega) (by decide), if_pos rfl, ix_nI (by omega), wA_s, rcR_ov hv (by omega), bit1 _ (by omega), ovX_sim s]
