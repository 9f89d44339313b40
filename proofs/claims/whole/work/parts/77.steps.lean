/-! years: steps over a relation without rings -/
def mxI (a b : Int) : Int := if a < b then b else a
theorem mxI_l (a b : Int) : a ≤ mxI a b := by unfold mxI; split <;> omega
theorem mxI_r (a b : Int) : b ≤ mxI a b := by unfold mxI; split <;> omega
theorem mxI_e {a b : Int} (h : b ≤ a) : mxI a b = a := by unfold mxI; rw [if_neg (by omega)]
def uI (L : Nat → Int) (a : Nat) (x : Int) : Nat → Int := fun j => if j = a then x else L j
def stI (q : Nat → Nat → Bool) (L : Nat → Int) (a b : Nat) : Nat → Int := if q a b then uI L a (mxI (L a) (L b + 1)) else L
def psI (q : Nat → Nat → Bool) (pa pb : Nat → Nat) (L : Nat → Int) : Nat → (Nat → Int)
  | 0 => L
  | n + 1 => stI q (psI q pa pb L n) (pa n) (pb n)
def paI (q : Nat → Nat → Bool) (pa pb : Nat → Nat) (L : Nat → Int) : Nat → (Nat → Int)
  | 0 => L
  | k + 1 => psI q pa pb (paI q pa pb L k) 196
theorem stI_up (q : Nat → Nat → Bool) (L : Nat → Int) (a b c : Nat) : L c ≤ stI q L a b c := by
  unfold stI
  split
  · unfold uI
    split
    · rename_i e; subst e; exact mxI_l _ _
    · exact Int.le_refl _
  · exact Int.le_refl _
theorem stI_bd {q : Nat → Nat → Bool} {L : Nat → Int} {B : Int} (h : ∀ c, L c ≤ B) (a b c : Nat) : stI q L a b c ≤ B + 1 := by
  have h1 := h a
  have h2 := h b
  have h3 := h c
  unfold stI
  split
  · unfold uI mxI
    split
    · split <;> omega
    · omega
  · omega
theorem psI_bd {q : Nat → Nat → Bool} {pa pb : Nat → Nat} {L : Nat → Int} {B : Int} (h : ∀ c, L c ≤ B) : ∀ n, ∀ c, psI q pa pb L n c ≤ B + n
  | 0, c => by have := h c; show L c ≤ _; omega
  | n + 1, c => by
    have := stI_bd (q := q) (psI_bd (q := q) (pa := pa) (pb := pb) h n) (pa n) (pb n) c
    show stI q _ _ _ c ≤ _
    omega
theorem psI_up (q : Nat → Nat → Bool) (pa pb : Nat → Nat) (L : Nat → Int) : ∀ n, ∀ c, L c ≤ psI q pa pb L n c
  | 0, c => Int.le_refl _
  | n + 1, c => Int.le_trans (psI_up q pa pb L n c) (stI_up q _ _ _ c)
theorem paI_bd {q : Nat → Nat → Bool} {pa pb : Nat → Nat} {L : Nat → Int} {B : Int} (h : ∀ c, L c ≤ B) : ∀ k : Nat, ∀ c, paI q pa pb L k c ≤ B + 196 * k
  | 0, c => by have := h c; show L c ≤ _; omega
  | k + 1, c => by
    have := psI_bd (q := q) (pa := pa) (pb := pb) (paI_bd (q := q) (pa := pa) (pb := pb) h k) 196 c
    show psI q pa pb _ 196 c ≤ _
    omega
theorem paI_up (q : Nat → Nat → Bool) (pa pb : Nat → Nat) (L : Nat → Int) : ∀ k, ∀ c, L c ≤ paI q pa pb L k c
  | 0, c => Int.le_refl _
  | k + 1, c => Int.le_trans (paI_up q pa pb L k c) (psI_up q pa pb _ 196 c)
def okI (q : Nat → Nat → Bool) (r : Nat → Nat) (k : Nat) (L : Nat → Int) : Prop := ∀ a b, a < 14 → b < 14 → q a b = true → r a < k → L b + 1 ≤ L a
theorem stI_sm {q : Nat → Nat → Bool} {r : Nat → Nat} {k : Nat} {L : Nat → Int} (h : okI q r k L) {a b : Nat} (ha : a < 14) (hb : b < 14) {c : Nat} (hc : r c < k) : stI q L a b c = L c := by
  unfold stI
  split
  · rename_i hq
    unfold uI
    split
    · rename_i e
      subst e
      exact mxI_e (h c b ha hb hq hc)
    · rfl
  · rfl
theorem okI_st {q : Nat → Nat → Bool} {r : Nat → Nat} (hr : ∀ a b, a < 14 → b < 14 → q a b = true → r b < r a) {k : Nat} {L : Nat → Int} (h : okI q r k L) {a b : Nat} (ha : a < 14) (hb : b < 14) : okI q r k (stI q L a b) := by
  intro c d hc hd hq hk
  rw [stI_sm h ha hb hk, stI_sm h ha hb (Nat.lt_trans (hr c d hc hd hq) hk)]
  exact h c d hc hd hq hk
theorem okI_ps {q : Nat → Nat → Bool} {r : Nat → Nat} (hr : ∀ a b, a < 14 → b < 14 → q a b = true → r b < r a) {pa pb : Nat → Nat} (hp : ∀ m, m < 196 → pa m < 14 ∧ pb m < 14) {k : Nat} {L : Nat → Int} (h : okI q r k L) : ∀ n, n ≤ 196 → okI q r k (psI q pa pb L n) ∧ ∀ m, m < n → q (pa m) (pb m) = true → r (pa m) = k → psI q pa pb L n (pb m) + 1 ≤ psI q pa pb L n (pa m)
  | 0, _ => ⟨h, fun m hm => by omega⟩
  | n + 1, hn => by
    obtain ⟨h1, h2⟩ := okI_ps hr hp h n (by omega)
    obtain ⟨a1, a2⟩ := hp n (by omega)
    refine ⟨okI_st hr h1 a1 a2, fun m hm hq hk => ?_⟩
    obtain ⟨c1, c2⟩ := hp m (by omega)
    have hlt : r (pb m) < k := by have := hr _ _ c1 c2 hq; omega
    show stI q (psI q pa pb L n) (pa n) (pb n) (pb m) + 1 ≤ stI q (psI q pa pb L n) (pa n) (pb n) (pa m)
    rw [stI_sm h1 a1 a2 hlt]
    by_cases e : m = n
    · subst e
      unfold stI
      rw [if_pos hq]
      unfold uI
      rw [if_pos rfl]
      exact mxI_r _ _
    · exact Int.le_trans (h2 m (by omega) hq hk) (stI_up q _ _ _ _)
theorem okI_pa {q : Nat → Nat → Bool} {r : Nat → Nat} (hr : ∀ a b, a < 14 → b < 14 → q a b = true → r b < r a) {pa pb : Nat → Nat} (hp : ∀ m, m < 196 → pa m < 14 ∧ pb m < 14) (hc : ∀ a b, a < 14 → b < 14 → ∃ m, m < 196 ∧ pa m = a ∧ pb m = b) (L : Nat → Int) : ∀ k, okI q r k (paI q pa pb L k)
  | 0 => fun a b _ _ _ h => by omega
  | k + 1 => by
    obtain ⟨h1, h2⟩ := okI_ps hr hp (okI_pa hr hp hc L k) 196 (Nat.le_refl _)
    intro a b ha hb hq hk
    by_cases e : r a < k
    · exact h1 a b ha hb hq e
    · obtain ⟨m, hm, ea, eb⟩ := hc a b ha hb
      subst ea; subst eb
      exact h2 m hm hq (by omega)
theorem okI_fix {q : Nat → Nat → Bool} {r : Nat → Nat} {pa pb : Nat → Nat} (hp : ∀ m, m < 196 → pa m < 14 ∧ pb m < 14) {k : Nat} (hk : ∀ a, a < 14 → r a < k) {L : Nat → Int} (h : okI q r k L) : ∀ n, n ≤ 196 → psI q pa pb L n = L
  | 0, _ => rfl
  | n + 1, hn => by
    have ih := okI_fix hp hk h n (by omega)
    obtain ⟨a1, a2⟩ := hp n (by omega)
    show stI q (psI q pa pb L n) (pa n) (pb n) = L
    rw [ih]
    unfold stI
    split
    · rename_i hq
      funext j
      unfold uI
      split
      · rename_i e
        subst e
        exact mxI_e (h _ _ a1 a2 hq (hk _ a1))
      · rfl
    · rfl
/-- the fifteenth turn changes nothing -/
theorem paI_15 {q : Nat → Nat → Bool} {r : Nat → Nat} (hr : ∀ a b, a < 14 → b < 14 → q a b = true → r b < r a) {pa pb : Nat → Nat} (hp : ∀ m, m < 196 → pa m < 14 ∧ pb m < 14) (hc : ∀ a b, a < 14 → b < 14 → ∃ m, m < 196 ∧ pa m = a ∧ pb m = b) (hk : ∀ a, a < 14 → r a < 14) (L : Nat → Int) : paI q pa pb L 15 = paI q pa pb L 14 := okI_fix hp hk (okI_pa hr hp hc L 14) 196 (Nat.le_refl _)
def pT (n : Nat) : Nat := n / 14
def pU (n : Nat) : Nat := n % 14
theorem pTU (m : Nat) (h : m < 196) : pT m < 14 ∧ pU m < 14 := by unfold pT pU; omega
theorem pUT (m : Nat) (h : m < 196) : pU m < 14 ∧ pT m < 14 := by unfold pT pU; omega
theorem pTUc (a b : Nat) (ha : a < 14) (hb : b < 14) : ∃ m, m < 196 ∧ pT m = a ∧ pU m = b := ⟨14 * a + b, by omega, by unfold pT; omega, by unfold pU; omega⟩
theorem pUTc (a b : Nat) (ha : a < 14) (hb : b < 14) : ∃ m, m < 196 ∧ pU m = a ∧ pT m = b := ⟨14 * b + a, by omega, by unfold pU; omega, by unfold pT; omega⟩
theorem ct_lt {p q : Nat → Bool} {n k : Nat} (h : ∀ k, k < n → p k = true → q k = true) (hk : k < n) (hp : p k = false) (hq : q k = true) : fb_ct p n < fb_ct q n := by
  rcases Nat.lt_or_ge (fb_ct p n) (fb_ct q n) with h1 | h1
  · exact h1
  · have := ct_eq h h1 k hk
    rw [hp, hq] at this; cases this
theorem ct_full {p : Nat → Bool} {n k : Nat} (hk : k < n) (hp : p k = false) : fb_ct p n < n := by
  have h1 := fb_ct_le p n
  rcases Nat.lt_or_ge (fb_ct p n) n with h2 | h2
  · exact h2
  · have := (fb_ct_all (p := p) (n := n)).mp (by omega) k hk
    rw [hp] at this; cases this
/-- told right over, as a relation -/
def qX (w : Wd) (t u : Nat) : Bool := bt (ruX w t) u
def qY (w : Wd) (u t : Nat) : Bool := bt (ruX w t) u
def rkD (w : Wd) (t : Nat) : Nat := fb_ct (fun u => bt (ovX w t) u) 14
def rkU (w : Wd) (u : Nat) : Nat := fb_ct (fun t => bt (ovX w t) u) 14
theorem ov_sub {w : Wd} {t u : Nat} (ht : t < 14) (h : qX w t u = true) : bt (ovX w t) u = true := by
  refine wsO_sub (ru0 w) ht (v := u) ?_ 14
  show bt (ru0 w t) u = true
  unfold ru0 ruR
  rw [if_pos ht]
  exact h
theorem ov_trans {w : Wd} (h : Rel w) {a b c : Nat} (ha : a < 14) (h1 : bt (ovX w a) b = true) (h2 : bt (ovX w b) c = true) : bt (ovX w a) c = true := wsO_trans (r14_ru h _) ha h1 h2
theorem rg_0 {w : Wd} (h : rgX w = 0) {t : Nat} (ht : t < 14) : bt (ovX w t) t = false := by
  have := bt_orS (fun t => bt (ovX w t) t) 0 14 (by decide) t (by omega)
  rw [show orS (fun t => bt (ovX w t) t) 0 14 = 0 from h, b_0, decide_eq_true (Nat.zero_le t), decide_eq_true (show t < 0 + 14 by omega)] at this
  simpa using this.symm
theorem rkD_lt {w : Wd} (h : Rel w) (hg : rgX w = 0) (a b : Nat) (ha : a < 14) (hb : b < 14) (hq : qX w a b = true) : rkD w b < rkD w a := by
  have h1 := ov_sub ha hq
  exact ct_lt (k := b) (fun k _ hk => ov_trans h ha h1 hk) hb (rg_0 hg hb) h1
theorem rkU_lt {w : Wd} (h : Rel w) (hg : rgX w = 0) (a b : Nat) (ha : a < 14) (hb : b < 14) (hq : qY w a b = true) : rkU w b < rkU w a := by
  have h1 : bt (ovX w b) a = true := ov_sub hb hq
  exact ct_lt (k := b) (fun k hk hk2 => ov_trans h hk hk2 h1) hb (rg_0 hg hb) h1
theorem rkD_14 {w : Wd} (hg : rgX w = 0) (a : Nat) (ha : a < 14) : rkD w a < 14 := ct_full (k := a) ha (rg_0 hg ha)
theorem rkU_14 {w : Wd} (hg : rgX w = 0) (a : Nat) (ha : a < 14) : rkU w a < 14 := ct_full (k := a) ha (rg_0 hg ha)
/-- Int32 from a number -/
def tI (x : Int) : Int32 := Int32.ofInt x
def smI (x : Int) : Prop := -1000000 ≤ x ∧ x ≤ 1000000
theorem tI_toInt {x : Int} (h : smI x) : (tI x).toInt = x := by
  unfold smI at h
  exact Int32.toInt_ofInt_of_le (by omega) (by omega)
theorem tI_of (x : Int32) : tI x.toInt = x := Int32.ofInt_toInt x
theorem tI_lt {x y : Int} (hx : smI x) (hy : smI y) : (tI x < tI y) = (x < y) := by rw [fa_lt, tI_toInt hx, tI_toInt hy]
theorem tI_le {x y : Int} (hx : smI x) (hy : smI y) : (tI x ≤ tI y) = (x ≤ y) := by rw [fa_le, tI_toInt hx, tI_toInt hy]
theorem tI_1 (x : Int) : tI x + 1 = tI (x + 1) := by
  unfold tI
  rw [Int32.ofInt_add]; rfl
theorem tI_m1 (x : Int) : tI x - 1 = tI (x - 1) := by
  unfold tI
  rw [Int32.ofInt_sub]; rfl
