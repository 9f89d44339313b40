/-! what lies over what: two ways to close a relation -/
/-- told right under t -/
def ruX (w : Wd) (t : Nat) : Int32 := if bt (w.1 5 0) t then w.1 10 t &&& w.1 5 0 else 0
theorem e_right {t : Nat} (ht : t < 14) (w : Wd) : f_X0_rightUnder (nI t) w = some (ruX w t, w) := by
  unfold f_X0_rightUnder ruX
  rw [e_has _ (by omega), Option.bind_some]
  dsimp only
  cases bt (w.1 5 0) t with
  | false => rw [if_pos bz]; rfl
  | true =>
    rw [if_neg bnz, e_at (k := 10) (by decide) lay_10, Option.bind_some, atv_in ht (by decide)]; rfl
/-- rows as a relation -/
abbrev rl (R : Nat → Int32) (u v : Nat) : Prop := bt (R u) v = true
/-- one middle, the first n rows -/
def wsI (m : Nat) (R : Nat → Int32) : Nat → (Nat → Int32)
  | 0 => R
  | n + 1 => if bt (wsI m R n n) m then upd (wsI m R n) n (wsI m R n n ||| wsI m R n m) else wsI m R n
def wsO (R : Nat → Int32) : Nat → (Nat → Int32)
  | 0 => R
  | n + 1 => wsI n (wsO R n) 14
theorem or_self (x : Int32) : x ||| x = x := by
  apply b_ext; intro i _; rw [b_or, Bool.or_self]
theorem wsI_eq (m : Nat) (R : Nat → Int32) : ∀ n, wsI m R n = fun u => if u < n ∧ bt (R u) m = true then R u ||| R m else R u
  | 0 => by
    funext u
    rw [wsI, if_neg (by omega)]
  | n + 1 => by
    have ih := wsI_eq m R n
    have hn : wsI m R n n = R n := by rw [ih]; dsimp only; rw [if_neg (by omega)]
    have hm : wsI m R n m = R m := by
      rw [ih]; dsimp only
      split
      · exact or_self _
      · rfl
    rw [wsI, hn, hm]
    funext u
    by_cases hb : bt (R n) m = true
    · rw [if_pos hb]
      unfold upd
      by_cases hu : u = n
      · subst hu; rw [if_pos rfl, if_pos ⟨by omega, hb⟩]
      · rw [if_neg hu, ih]
        dsimp only
        by_cases c : u < n ∧ bt (R u) m = true
        · rw [if_pos c, if_pos ⟨by omega, c.2⟩]
        · rw [if_neg c, if_neg (fun z => c ⟨by omega, z.2⟩)]
    · rw [if_neg hb, ih]
      dsimp only
      by_cases c : u < n ∧ bt (R u) m = true
      · rw [if_pos c, if_pos ⟨by omega, c.2⟩]
      · rw [if_neg c, if_neg (fun z => c ⟨by
          rcases Nat.lt_or_ge u n with q | q
          · exact q
          · have : u = n := by omega
            subst this; exact absurd z.2 hb, z.2⟩)]
theorem wsI_rl (m : Nat) (R : Nat → Int32) {u : Nat} (hu : u < 14) (v : Nat) : rl (wsI m R 14) u v ↔ rl R u v ∨ (rl R u m ∧ rl R m v) := by
  rw [wsI_eq]
  show bt (if u < 14 ∧ bt (R u) m = true then R u ||| R m else R u) v = true ↔ _
  by_cases h : bt (R u) m = true
  · rw [if_pos ⟨hu, h⟩, b_or, Bool.or_eq_true]
    exact ⟨fun z => z.imp id (fun y => ⟨h, y⟩), fun z => z.imp id (fun y => y.2)⟩
  · rw [if_neg (fun z => h z.2)]
    exact ⟨Or.inl, fun z => z.elim id (fun y => absurd y.1 h)⟩
theorem wsO_sub (R : Nat → Int32) {u : Nat} (hu : u < 14) {v : Nat} (h : rl R u v) : ∀ n, rl (wsO R n) u v
  | 0 => h
  | n + 1 => (wsI_rl n _ hu v).mpr (Or.inl (wsO_sub R hu h n))
theorem wsO_least (R : Nat → Int32) (T : Nat → Nat → Prop) (hT : ∀ a b c, T a b → T b c → T a c) (hR : ∀ u, u < 14 → ∀ v, rl R u v → T u v) : ∀ n, n ≤ 14 → ∀ u, u < 14 → ∀ v, rl (wsO R n) u v → T u v
  | 0, _, u, hu, v, h => hR u hu v h
  | n + 1, hn, u, hu, v, h => by
    have ih := wsO_least R T hT hR n (by omega)
    rcases (wsI_rl n _ hu v).mp h with h | ⟨h1, h2⟩
    · exact ih u hu v h
    · exact hT u n v (ih u hu n h1) (ih n (by omega) v h2)
theorem wsO_closed (R : Nat → Int32) : ∀ n, n ≤ 14 → ∀ k, k < n → ∀ u, u < 14 → ∀ v, rl (wsO R n) u k → rl (wsO R n) k v → rl (wsO R n) u v
  | 0, _, k, hk, _, _, _, _, _ => by omega
  | n + 1, hn, k, hk, u, hu, v, h1, h2 => by
    have ih := wsO_closed R n (by omega)
    have h1 := (wsI_rl n _ hu k).mp h1
    have h2 := (wsI_rl n _ (show k < 14 by omega) v).mp h2
    refine (wsI_rl n _ hu v).mpr ?_
    by_cases hkn : k = n
    · subst hkn
      have a1 : rl (wsO R k) u k := h1.elim id (fun y => y.1)
      have a2 : rl (wsO R k) k v := h2.elim id (fun y => y.2)
      exact Or.inr ⟨a1, a2⟩
    · have hk' : k < n := by omega
      rcases h1 with a | ⟨a, b⟩ <;> rcases h2 with c | ⟨c, d⟩
      · exact Or.inl (ih k hk' u hu v a c)
      · exact Or.inr ⟨ih k hk' u hu n a c, d⟩
      · exact Or.inr ⟨a, ih k hk' n (by omega) v b c⟩
      · exact Or.inr ⟨a, d⟩
/-- rows within the first fourteen -/
def r14 (R : Nat → Int32) : Prop := ∀ u, u < 14 → ∀ v, rl R u v → v < 14
theorem wsO_14 {R : Nat → Int32} (h : r14 R) : ∀ n, n ≤ 14 → r14 (wsO R n)
  | 0, _ => h
  | n + 1, hn => fun u hu v hv => by
    have ih := wsO_14 h n (by omega)
    rcases (wsI_rl n _ hu v).mp hv with a | ⟨_, b⟩
    · exact ih u hu v a
    · exact ih n (by omega) v b
theorem wsO_trans {R : Nat → Int32} (h : r14 R) {a b c : Nat} (ha : a < 14) (h1 : rl (wsO R 14) a b) (h2 : rl (wsO R 14) b c) : rl (wsO R 14) a c := wsO_closed R 14 (Nat.le_refl _) b (wsO_14 h 14 (Nat.le_refl _) a ha b h1) a ha c h1 h2
theorem e_close_40 {w : Wd} {m : Nat} (hm : m < 14) (R : Nat → Int32) (k32 : Int32 → Wd → Option Wd) : ∀ (n i : Nat), i ≤ 14 → 14 - i < n → f_X8_closeOver_40 k32 n (nI m) (nI i) (wA w 15 (wsI m R i)) = k32 (nI (m + 1)) (wA w 15 (wsI m R 14)) := by
  intro n
  induction n with
  | zero => intro i _ h; omega
  | succ n ih =>
    intro i hi hn
    rw [f_X8_closeOver_40]
    by_cases h : i = 14
    · subst h
      rw [if_pos (by decide), p1]
    · have hi14 : i < 14 := by omega
      have i1 := ih (i + 1) (by omega) (by omega)
      rw [if_neg (n14 hi14), e_at (k := 15) (by decide) lay_15, Option.bind_some, atv_in hi14 (by decide), wA_s]
      dsimp only
      rw [e_has _ (by omega), Option.bind_some]
      dsimp only
      rw [p1]
      rw [wsI] at i1
      cases hb : bt (wsI m R i i) m with
      | false =>
        rw [if_pos bz]
        rw [hb, if_neg (by decide)] at i1
        exact i1
      | true =>
        rw [if_neg bnz, e_at (k := 15) (by decide) lay_15, Option.bind_some, e_at (k := 15) (by decide) lay_15, Option.bind_some, e_put (k := 15) (by decide) lay_15, Option.bind_some, atv_in hi14 (by decide), atv_in hm (by decide), ptv_in hi14 (by decide)]
        dsimp only
        rw [wA_s, wA_wA]
        rw [hb, if_pos rfl] at i1
        exact i1
theorem e_close_32 {w : Wd} (R : Nat → Int32) : ∀ (n m : Nat), m ≤ 14 → 14 - m < n → f_X8_closeOver_32 n (nI m) (wA w 15 (wsO R m)) = some (wA w 15 (wsO R 14)) := by
  intro n
  induction n with
  | zero => intro i _ h; omega
  | succ n ih =>
    intro m hm hn
    rw [f_X8_closeOver_32]
    by_cases h : m = 14
    · subst h
      rw [if_pos (by decide)]
    · rw [if_neg (n14 (by omega))]
      have := e_close_40 (w := w) (m := m) (by omega) (wsO R m) (f_X8_closeOver_32 n) fu 0 (by decide) (by decide)
      exact this.trans (ih (m + 1) (by omega) (by omega))
def ruR (w : Wd) (f : Nat → Int32) (i : Nat) : Nat → Int32 := fun j => if j < i then ruX w j else f j
theorem ruR_s (w : Wd) (f : Nat → Int32) (i : Nat) : upd (ruR w f i) i (ruX w i) = ruR w f (i + 1) := by
  funext j
  unfold upd ruR
  by_cases h : j = i
  · subst h; rw [if_pos rfl, if_pos (by omega)]
  · rw [if_neg h]
    by_cases h2 : j < i
    · rw [if_pos h2, if_pos (by omega)]
    · rw [if_neg h2, if_neg (by omega)]
theorem ruX_w {w v : Wd} (h1 : v.1 5 = w.1 5) (h2 : v.1 10 = w.1 10) (t : Nat) : ruX v t = ruX w t := by
  unfold ruX; rw [h1, h2]
theorem e_close_2 {w : Wd} (f : Nat → Int32) : ∀ (n i : Nat), i ≤ 14 → 14 - i < n → f_X8_closeOver_2 n (nI i) (wA w 15 (ruR w f i)) = some (wA w 15 (wsO (ruR w f 14) 14)) := by
  intro n
  induction n with
  | zero => intro i _ h; omega
  | succ n ih =>
    intro i hi hn
    rw [f_X8_closeOver_2]
    by_cases h : i = 14
    · subst h
      rw [if_pos (by decide)]
      exact e_close_32 (ruR w f 14) fu 0 (by decide) (by decide)
    · rw [if_neg (n14 (by omega)), e_right (by omega), Option.bind_some, e_put (k := 15) (by decide) lay_15, Option.bind_some, ptv_in (by omega) (by decide)]
      dsimp only
      rw [ruX_w (w := w) (wA_n _ _ (by decide)) (wA_n _ _ (by decide)), wA_s, wA_wA, ruR_s, p1]
      exact ih (i + 1) (by omega) (by omega)
/-- the class's closed rows -/
def clR (w : Wd) : Nat → Int32 := wsO (ruR w (w.1 15) 14) 14
theorem e_close (w : Wd) : f_X8_closeOver w = some (wA w 15 (clR w)) := by
  unfold f_X8_closeOver
  have := e_close_2 (w := w) (w.1 15) fu 0 (by decide) (by decide)
  have z : ruR w (w.1 15) 0 = w.1 15 := by funext j; unfold ruR; rw [if_neg (by omega)]
  rw [z, wA_self] at this
  exact this
