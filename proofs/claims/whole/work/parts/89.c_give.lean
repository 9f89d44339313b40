/-! given: the reference -/
def gvM (w : Wd) (q : Nat × Nat × (Nat → Nat)) (v : Wd) : Prop := sim w v ∧ v.1 33 32 = nI q.1 ∧ v.1 33 33 = (if q.1 = 0 then -1 else nI q.2.1) ∧ (0 < q.1 → ∀ t, t < 5 → v.1 52 t = if sN w t = 0 then -1 else nI (q.2.2 t))
def gvP (w : Wd) (a : Nat → Nat) (t : Nat) (v : Wd) : Prop := ∀ u, u < t → 0 < sN w u → v.1 51 u = nI (a u)
theorem mc49 {w v : Wd} (h : Rel w) (s : sim w v) : v.1 49 = w.1 21 := by
  rw [(h.sim s).e.2.2.2.2.2.2.2.2.2.2.2.2.1, s.row 21 (fun _ => rfl)]
theorem mc50 {w v : Wd} (h : Rel w) (s : sim w v) : v.1 50 = w.1 22 := by
  rw [(h.sim s).e.2.2.2.2.2.2.2.2.2.2.2.2.2.1, s.row 22 (fun _ => rfl)]
theorem tI_neg (x : Int) : -(tI x) = tI (-x) := by unfold tI; rw [Int32.ofInt_neg]
theorem m_off {w v : Wd} (h : Rel w) (s : sim w v) {t b : Nat} (ht : t < 5) (hb : b < 8) (tb : bt (w.1 5 0) b = true) : f_X10_offOf (nI t) (nI b) v = some (nI (difN w t b), v) := by
  obtain ⟨e, l⟩ := h.str ht
  obtain ⟨e2, l2⟩ := h.rdg hb tb
  unfold f_X10_offOf
  rw [inB_nI ht (by decide), if_pos rfl, show f_X10_of (nI b) 1 v = _ from m_of (k := 1) hb (by decide) v, Option.bind_some, (h.sim s).of hb (by decide), s.row 6 (fun _ => rfl), show 9 * b + (1 + 2) = 9 * b + 3 by omega, e2, mc49 h s, ix_nI (by omega), e]
  dsimp only
  rw [← tI_nI, ← tI_nI, tI_sb, ← tI_nI, tI_neg]
  simp only [show ((0 : Int32) ≤ tI ((sN w t : Int) - rgN w b)) = (0 ≤ (sN w t : Int) - rgN w b) from tI_le (x := 0) (by unfold smI; omega) (by unfold smI; omega)]
  unfold difN
  by_cases c : 0 ≤ (sN w t : Int) - rgN w b
  · rw [if_pos c]; congr 3; omega
  · rw [if_neg c]; congr 3; omega
def apI (a n b m : Int) : Int := if a ≤ b + m then (if b ≤ a + n then 0 else b - a - n) else a - b - m
theorem m_apart {a n b m : Int} (ha : s4 a) (hn : s4 n) (hb : s4 b) (hm : s4 m) (v : Wd) : f_X10_apart (tI a) (tI n) (tI b) (tI m) v = some (tI (apI a n b m), v) := by
  unfold s4 at *
  unfold f_X10_apart apI
  rw [tI_add, tI_add, tI_sb, tI_sb, tI_sb, tI_sb]
  simp only [tI_le (x := a) (y := b + m) (by unfold smI; omega) (by unfold smI; omega), tI_le (x := b) (y := a + n) (by unfold smI; omega) (by unfold smI; omega)]
  by_cases c1 : a ≤ b + m
  · rw [if_pos c1, if_pos c1]
    by_cases c2 : b ≤ a + n
    · rw [if_pos c2, if_pos c2]; rfl
    · rw [if_neg c2, if_neg c2]
  · rw [if_neg c1, if_neg c1]
theorem ap_yb {a n b m : Int} {g : Nat} (hn : 1 ≤ n) (hm : 1 ≤ m) : ((g : Int) < apI a n b m) ↔ ¬ (mxI a b - mnI (a + n) (b + m) ≤ g) := by
  unfold apI mxI mnI
  split <;> split <;> (try split) <;> omega
theorem m_touch {w v : Wd} (h : Rel w) (s : sim w v) {x b : Nat} (hx : x < 8) (hb : b < 8) (tx : bt (w.1 5 0) x = true) (tb : bt (w.1 5 0) b = true) : f_X10_doTouch (nI x) (nI b) v = some (b2i (tch w x b), v) := by
  have hv := h.sim s
  obtain ⟨eg, lg⟩ := h.gpk
  have e33 : v.1 33 14 = nI (gpN w) := by rw [hv.e.2.2.2.2.1, s 5 10 rfl, eg]
  obtain ⟨x0, x1, x2, x3⟩ := hv.bx4 (t := x) (by omega)
  obtain ⟨b0, b1, b2, b3⟩ := hv.bx4 (t := b) (by omega)
  have bx : ∀ t k, bxI v t k = bxI w t k := by intro t k; unfold bxI; rw [s.row 7 (fun _ => rfl)]
  have sx : ∀ {k}, k < 4 → s4 (bxI w x k) := fun hk => bxs4 h (by omega) tx hk
  have sb : ∀ {k}, k < 4 → s4 (bxI w b k) := fun hk => bxs4 h (by omega) tb hk
  have l2 := (h.bxb (t := x) (by omega) tx (k := 2) (by decide)).2 (by decide)
  have l3 := (h.bxb (t := x) (by omega) tx (k := 3) (by decide)).2 (by decide)
  have k2 := (h.bxb (t := b) (by omega) tb (k := 2) (by decide)).2 (by decide)
  have k3 := (h.bxb (t := b) (by omega) tb (k := 3) (by decide)).2 (by decide)
  have ab : ∀ {a n c m : Int}, s4 a → s4 n → s4 c → s4 m → smI (apI a n c m) := by
    intro a n c m h1 h2 h3 h4
    unfold s4 at *
    unfold apI smI
    split
    · split <;> omega
    · omega
  unfold f_X10_doTouch
  simp only [inB_nI (show x < 14 by omega) (show 14 < 2 ^ 31 by decide), inB_nI (show b < 14 by omega) (show 14 < 2 ^ 31 by decide), ix_nI (show x < 2 ^ 31 by omega), ix_nI (show b < 2 ^ 31 by omega), if_true, x0, x1, x2, x3, b0, b1, b2, b3, bx]
  rw [m_apart (sx (by decide)) (sx (by decide)) (sb (by decide)) (sb (by decide)), Option.bind_some]
  dsimp only
  simp only [x0, x1, x2, x3, b0, b1, b2, b3, bx]
  rw [e33, m_apart (sx (by decide)) (sx (by decide)) (sb (by decide)) (sb (by decide)), Option.bind_some]
  dsimp only
  rw [e33, ← tI_nI]
  simp only [tI_lt (x := (gpN w : Int)) (by unfold smI; omega) (ab (sx (k := 0) (by decide)) (sx (k := 2) (by decide)) (sb (k := 0) (by decide)) (sb (k := 2) (by decide))), tI_lt (x := (gpN w : Int)) (by unfold smI; omega) (ab (sx (k := 1) (by decide)) (sx (k := 3) (by decide)) (sb (k := 1) (by decide)) (sb (k := 3) (by decide)))]
  have q0 := ap_yb (a := bxI w x 0) (n := bxI w x 2) (b := bxI w b 0) (m := bxI w b 2) (g := gpN w) l2 k2
  have q1 := ap_yb (a := bxI w x 1) (n := bxI w x 3) (b := bxI w b 1) (m := bxI w b 3) (g := gpN w) l3 k3
  have y0 : ybI w x b 0 = mxI (bxI w x 0) (bxI w b 0) - mnI (bxI w x 0 + bxI w x 2) (bxI w b 0 + bxI w b 2) := rfl
  have y1 : ybI w x b 1 = mxI (bxI w x 1) (bxI w b 1) - mnI (bxI w x 1 + bxI w x 3) (bxI w b 1 + bxI w b 3) := rfl
  unfold tch
  rw [← y0] at q0
  rw [← y1] at q1
  by_cases c0 : (gpN w : Int) < apI (bxI w x 0) (bxI w x 2) (bxI w b 0) (bxI w b 2)
  · rw [if_pos c0, decide_eq_false (q0.mp c0), Bool.false_and]; rfl
  · have z0 : ybI w x b 0 ≤ gpN w := Classical.byContradiction (fun z => c0 (q0.mpr z))
    rw [if_neg c0, decide_eq_true z0, Bool.true_and]
    by_cases c1 : (gpN w : Int) < apI (bxI w x 1) (bxI w x 3) (bxI w b 1) (bxI w b 3)
    · rw [if_pos c1, decide_eq_false (q1.mp c1)]; rfl
    · have z1 : ybI w x b 1 ≤ gpN w := Classical.byContradiction (fun z => c1 (q1.mpr z))
      rw [if_neg c1, decide_eq_true z1]; rfl
theorem m_may_25 {w v : Wd} (h : Rel w) (s : sim w v) {t b : Nat} (ht : t < 5) (hb : b < 8) (tb : bt (w.1 5 0) b = true) {a : Nat → Nat} (ha : aOK w a t) (hp : gvP w a t v) : ∀ (n u : Nat), u ≤ t → t - u < n → alB (ngB w t a b) u = true → f_X10_mayHave_25 n (nI t) (nI b) (nI u) v = some (b2i (alB (ngB w t a b) t), v) := by
  intro n
  induction n with
  | zero => intro u _ h; omega
  | succ n ih =>
    intro u hu hn hal
    rw [f_X10_mayHave_25]
    by_cases e : u = t
    · subst e
      rw [if_pos (nI_le (Nat.le_refl _) (by omega)), hal]; rfl
    · have hut : u < t := by omega
      obtain ⟨es, ls⟩ := h.str (t := u) (by omega)
      have yes : ngB w t a b u = true → f_X10_mayHave_25 n (nI t) (nI b) (nI (u + 1)) v = some (b2i (alB (ngB w t a b) t), v) := by
        intro c
        exact ih (u + 1) (by omega) (by omega) (by rw [alB, hal, c]; rfl)
      have no : ngB w t a b u = false → alB (ngB w t a b) t = false := by
        intro c
        have h1 : alB (ngB w t a b) (u + 1) = false := by rw [alB, c, Bool.and_false]
        have := alB_f h1 (t - (u + 1))
        rw [show u + 1 + (t - (u + 1)) = t by omega] at this
        exact this
      simp only [if_neg (nI_ge hut (show t < 2 ^ 31 by omega)), inB_nI (show u < 5 by omega) (show 5 < 2 ^ 31 by decide), inB_nI (show u < 6 by omega) (show 6 < 2 ^ 31 by decide), inB_nI ht (show 5 < 2 ^ 31 by decide), ix_nI (show u < 2 ^ 31 by omega), ix_nI (show t < 2 ^ 31 by omega), if_true, p1, mc49 h s, mc50 h s, es, bit1 (w.1 22 t) (show u < 32 by omega), b2i_1]
      by_cases hs : sN w u = 0
      · rw [if_pos (by rw [hs]; decide)]
        exact yes (by unfold ngB; rw [decide_eq_true hs, Bool.true_or])
      · obtain ⟨a1, a2⟩ := ha u hut (by omega)
        rw [if_neg (nI_nle (by omega) (by omega)), hp u hut (by omega)]
        by_cases c1 : a u = b
        · rw [if_pos (by rw [c1]), no (by unfold ngB; rw [decide_eq_false hs, decide_eq_false (fun z => z c1)]; rfl)]; rfl
        · rw [if_neg (fun z => c1 ((nI_eq (by omega) (by omega)).mp z))]
          cases c2 : bt (w.1 22 t) u with
          | false =>
            rw [if_neg (by decide)]
            exact yes (by unfold ngB; rw [c2, decide_eq_true c1, Bool.not_false, Bool.true_or, Bool.and_true, Bool.or_true])
          | true =>
            rw [if_pos rfl, m_touch h s a1 hb a2 tb, Option.bind_some]
            dsimp only
            cases c3 : tch w (a u) b with
            | false =>
              rw [if_pos bz, no (by unfold ngB; rw [decide_eq_false hs, c2, c3]; cases decide (a u ≠ b) <;> rfl)]; rfl
            | true =>
              rw [if_neg bnz]
              exact yes (by unfold ngB; rw [c3, decide_eq_true c1, Bool.or_true, Bool.and_true, Bool.or_true])
theorem m_may {w v : Wd} (h : Rel w) (s : sim w v) {t b : Nat} (ht : t < 5) (hb : b < 8) {a : Nat → Nat} (ha : aOK w a t) (hp : gvP w a t v) : f_X10_mayHave (nI t) (nI b) v = some (b2i (okG w t a b), v) := by
  have hv := h.sim s
  obtain ⟨esl, lsl⟩ := h.slk
  unfold f_X10_mayHave okG suB
  rw [m_isBundle, Option.bind_some, hv.told, s 5 0 rfl]
  dsimp only
  rw [show isT 7 (w.1 5 0) (nI b) = bt (w.1 5 0) b from nI_isT (n := 7) (by omega) (by decide)]
  cases tb : bt (w.1 5 0) b with
  | false => rw [if_pos bz]; rfl
  | true =>
    have hd := dif_b h ht hb tb
    rw [if_neg bnz, m_off h s ht hb tb, Option.bind_some, hv.e.2.2.2.1, s 5 9 rfl, esl]
    dsimp only
    by_cases c : difN w t b ≤ slN w
    · rw [if_pos (nI_le c (by omega)), decide_eq_true c, Bool.true_and, Bool.true_and]
      exact m_may_25 h s ht hb tb ha hp fu 0 (Nat.zero_le _) (Nat.lt_of_le_of_lt (show t - 0 ≤ 5 by omega) (by decide)) rfl
    · rw [if_neg (nI_ge (by omega) (by omega)), decide_eq_false c, Bool.and_false, Bool.false_and]; rfl
theorem m_one_75 {w v : Wd} (h : Rel w) (s : sim w v) (B : Nat → Int32) : ∀ (n i : Nat), i ≤ 5 → 5 - i < n → f_X10_giveOne_75 n (nI i) (wA v 52 (pfR (fun t => if sN w t = 0 then -1 else v.1 51 t) B i)) = some (wA v 52 (pfR (fun t => if sN w t = 0 then -1 else v.1 51 t) B 5)) := by
  intro n
  induction n with
  | zero => intro i _ h; omega
  | succ n ih =>
    intro i hi hn
    rw [f_X10_giveOne_75]
    by_cases h5 : i = 5
    · subst h5
      rw [if_pos (by decide)]
    · have i1 := ih (i + 1) (by omega) (by omega)
      have sB : sim w (wA v 52 (pfR (fun t => if sN w t = 0 then -1 else v.1 51 t) B i)) := s.wA _ (fun j e => by cases e)
      obtain ⟨es, ls⟩ := h.str (t := i) (by omega)
      rw [← pfR_s] at i1
      simp only [if_neg (n5 (show i < 5 by omega)), inB_nI (show i < 5 by omega) (show 5 < 2 ^ 31 by decide), inB_nI (show i < 6 by omega) (show 6 < 2 ^ 31 by decide), ix_nI (show i < 2 ^ 31 by omega), if_true, wS_d, p1, mc49 h sB, es, wA_s, wA_wA, wA_n (k := 52) (a := 51) _ _ (show 51 ≠ 52 by decide)]
      by_cases hs : sN w i = 0
      · rw [if_pos (by rw [hs]; rfl)]
        rw [if_pos hs] at i1
        exact i1
      · rw [if_neg (nI_ne0 (by omega) (by omega))]
        rw [if_neg hs] at i1
        exact i1
theorem m_one_68 {w v : Wd} (h : Rel w) (s : sim w v) (x : Int32) : f_X10_giveOne_68 x v = some (wA (wA v 33 (upd (v.1 33) 33 x)) 52 (pfR (fun t => if sN w t = 0 then -1 else v.1 51 t) (v.1 52) 5)) := by
  unfold f_X10_giveOne_68
  rw [wS_d]
  have sA : sim w (wA v 33 (upd (v.1 33) 33 x)) := s.wA _ (fun j e => by
    unfold upd
    rw [if_neg (fun z => by subst z; cases e)])
  have := m_one_75 h sA (v.1 52) fu 0 (by decide) (by decide)
  rw [pfR_0] at this
  have z : wA (wA v 33 (upd (v.1 33) 33 x)) 52 (v.1 52) = wA v 33 (upd (v.1 33) 33 x) := by
    have := wA_self (wA v 33 (upd (v.1 33) 33 x)) 52
    rw [wA_n _ _ (by decide)] at this
    exact this
  rw [z] at this
  exact this
theorem m_one_4 {w v : Wd} (h : Rel w) {q : Nat × Nat × (Nat → Nat)} {a : Nat → Nat} (ha : aOK w a 5) (hc : gvM w q v) (hp : gvP w a 5 v) (hq : q.1 + 1 ≤ 40000) (hf : q.2.1 ≤ 1000) : ∀ (n i : Nat), i ≤ 5 → 5 - i < n → ∃ v', f_X10_giveOne_4 n (nI (dsum w a i)) (nI i) v = some v' ∧ gvM w (kpG q (dsum w a 5) a) v' ∧ v'.1 51 = v.1 51 := by
  obtain ⟨s, c1, c2, c3⟩ := hc
  have hd := dsum_b h 5 (Nat.le_refl _) ha
  intro n
  induction n with
  | zero => intro i _ h; omega
  | succ n ih =>
    intro i hi hn
    rw [f_X10_giveOne_4]
    by_cases h5 : i = 5
    · subst h5
      have sA : sim w (wA v 33 (upd (v.1 33) 32 (nI (q.1 + 1)))) := s.wA _ (fun j e => by
        unfold upd
        rw [if_neg (fun z => by subst z; cases e)])
      have better : (q.1 = 0 ∨ dsum w a 5 < q.2.1) → ∃ v', f_X10_giveOne_68 (nI (dsum w a 5)) (wA v 33 (upd (v.1 33) 32 (nI (q.1 + 1)))) = some v' ∧ gvM w (kpG q (dsum w a 5) a) v' ∧ v'.1 51 = v.1 51 := by
        intro hb
        refine ⟨_, m_one_68 h sA _, ⟨?_, ?_, ?_, ?_⟩, ?_⟩
        · refine (sA.wA _ (fun j e => ?_)).wA _ (fun j e => by cases e)
          unfold upd
          rw [if_neg (fun z => by subst z; cases e)]
        · rw [wA_n _ _ (by decide), wA_s, wA_s]
          unfold upd kpG
          rw [if_neg (by decide), if_pos rfl, if_pos hb]
        · rw [wA_n _ _ (by decide), wA_s, wA_s]
          unfold upd kpG
          rw [if_pos rfl, if_pos hb, if_neg (show ¬ q.1 + 1 = 0 by omega)]
        · intro _ t ht
          unfold kpG
          rw [if_pos hb, wA_s]
          unfold pfR
          rw [if_pos ht, wA_n _ _ (by decide)]
          show (if sN w t = 0 then (-1 : Int32) else v.1 51 t) = if sN w t = 0 then -1 else nI (a t)
          by_cases hs : sN w t = 0
          · rw [if_pos hs, if_pos hs]
          · rw [if_neg hs, if_neg hs, hp t ht (by omega)]
        · rw [wA_n _ _ (by decide), wA_n _ _ (by decide), wA_n _ _ (by decide)]
      rw [if_pos (by decide), c1, p1]
      simp only [wS_d]
      rw [wA_s, show upd (v.1 33) 32 (nI (q.1 + 1)) 33 = v.1 33 33 from if_neg (by decide), c2]
      by_cases h0 : q.1 = 0
      · rw [if_pos h0, if_pos rfl]
        exact better (Or.inl h0)
      · rw [if_neg h0, if_neg (fun z => by
          rw [fa_eq, nI_toInt (by omega), show (-1 : Int32).toInt = -1 from rfl] at z; omega)]
        by_cases hl : q.2.1 ≤ dsum w a 5
        · rw [if_pos (nI_le hl (by omega))]
          refine ⟨_, rfl, ⟨sA, ?_, ?_, ?_⟩, ?_⟩
          · rw [wA_s]
            unfold upd kpG
            rw [if_pos rfl, if_neg (by omega)]
          · rw [wA_s]
            unfold kpG
            rw [show upd (v.1 33) 32 (nI (q.1 + 1)) 33 = v.1 33 33 from if_neg (by decide), c2, if_neg h0, if_neg (show ¬ (q.1 = 0 ∨ dsum w a 5 < q.2.1) by omega), if_neg (show ¬ q.1 + 1 = 0 by omega)]
          · intro _
            unfold kpG
            rw [if_neg (by omega), wA_n _ _ (by decide)]
            exact c3 (by omega)
          · rw [wA_n _ _ (by decide)]
        · rw [if_neg (nI_ge (by omega) (by omega))]
          exact better (Or.inr (by omega))
    · have i1 := ih (i + 1) (by omega) (by omega)
      obtain ⟨es, ls⟩ := h.str (t := i) (by omega)
      rw [dsum] at i1
      rw [if_neg (n5 (by omega)), inB_nI (show i < 5 by omega) (by decide), if_pos rfl, ix_nI (by omega), mc49 h s, es, p1]
      by_cases hs : sN w i = 0
      · rw [if_pos (by rw [hs]; rfl)]
        rw [if_pos hs] at i1
        rw [show nI (dsum w a i) + 0 = nI (dsum w a i + 0) from nI_add _ 0]
        exact i1
      · obtain ⟨a1, a2⟩ := ha i (by omega) (by omega)
        rw [if_neg (nI_ne0 (by omega) (by omega)), inB_nI (show i < 6 by omega) (by decide), if_pos rfl, hp i (by omega) (by omega), m_off h s (by omega) a1 a2, Option.bind_some]
        dsimp only
        rw [nI_add]
        rw [if_neg hs] at i1
        exact i1
theorem m_giveOne {w v : Wd} (h : Rel w) {q : Nat × Nat × (Nat → Nat)} {a : Nat → Nat} (ha : aOK w a 5) (hc : gvM w q v) (hp : gvP w a 5 v) (hq : q.1 + 1 ≤ 40000) (hf : q.2.1 ≤ 1000) : ∃ v', f_X10_giveOne v = some v' ∧ gvM w (kpG q (dsum w a 5) a) v' ∧ v'.1 51 = v.1 51 := m_one_4 h ha hc hp hq hf fu 0 (by decide) (by decide)
/-- at most so many steps -/
def ccN : Nat → Nat
  | 0 => 1
  | m + 1 => 9 + 8 * ccN m
theorem gvM_51 {w v : Wd} {q : Nat × Nat × (Nat → Nat)} (hc : gvM w q v) (f : Nat → Int32) : gvM w q (wA v 51 f) := by
  obtain ⟨s, c1, c2, c3⟩ := hc
  refine ⟨s.wA _ (fun j e => by cases e), ?_, ?_, ?_⟩
  · rw [wA_n _ _ (by decide)]; exact c1
  · rw [wA_n _ _ (by decide)]; exact c2
  · rw [wA_n _ _ (by decide)]; exact c3
/-- one step at a level: the next one is tried -/
theorem m_gs {w v : Wd} (h : Rel w) (s : sim w v) {t b : Nat} (ht : t < 5) (hb : b ≤ 8) (hv : v.1 51 t = xx b) (n : Nat) : f_X10_giveAll_19 (n + 1) (nI t) v = f_X10_giveAll_90 (f_X10_giveAll_19 n) (b2i (if sN w t = 0 then decide (0 < b) else decide (7 < b))) (nI t) (wA v 51 (upd (v.1 51) t (nI b))) := by
  obtain ⟨es, ls⟩ := h.str ht
  have ex : xx b + 1 = nI b := by
    cases b with
    | zero => rfl
    | succ b => unfold xx; rw [if_neg (by omega), Nat.add_sub_cancel, p1]
  rw [f_X10_giveAll_19]
  rw [if_neg (nI_pos (by omega)), if_neg (fun z => by have := (nI_eq (b := 5) (by omega) (by decide)).mp z; omega)]
  simp only [inB_nI ht (show 5 < 2 ^ 31 by decide), inB_nI (show t < 6 by omega) (show 6 < 2 ^ 31 by decide), ix_nI (show t < 2 ^ 31 by omega), if_true, wS_d, hv, ex, wA_s, wA_n (k := 51) (a := 49) _ _ (show 49 ≠ 51 by decide), mc49 h s, es]
  rw [show upd (v.1 51) t (nI b) t = nI b from if_pos rfl]
  by_cases hs : sN w t = 0
  · rw [if_pos (by rw [hs]; rfl), if_pos hs]
    by_cases c : 0 < b
    · rw [if_neg (nI_nle c (by omega)), decide_eq_true c]; rfl
    · have : b = 0 := by omega
      subst this
      rw [if_pos (by decide), decide_eq_false c]; rfl
  · rw [if_neg (nI_ne0 (by omega) (by omega)), if_neg hs]
    by_cases c : 7 < b
    · rw [if_neg (show ¬ nI b ≤ 7 from nI_ge (a := 7) c (by omega)), decide_eq_true c]; rfl
    · rw [if_pos (show nI b ≤ 7 from nI_le (b := 7) (by omega) (by decide)), decide_eq_false c]; rfl
theorem gvP_u {w v : Wd} {a : Nat → Nat} {t b : Nat} (hp : gvP w a t v) : gvP w (asg a t b) (t + 1) (wA v 51 (upd (v.1 51) t (nI b))) := by
  intro u hu hs
  rw [wA_s]
  unfold upd
  by_cases e : u = t
  · subst e; rw [if_pos rfl, asg_t]
  · rw [if_neg e, asg_lt (by omega)]; exact hp u (by omega) hs
theorem m_giveAll_19 {w : Wd} (h : Rel w) : ∀ m t, t + m = 5 → ∀ (a : Nat → Nat) (q : Nat × Nat × (Nat → Nat)) (v : Wd), aOK w a t → gvM w q v → gvP w a t v → v.1 51 t = -1 → q.1 + 8 ^ m ≤ 40000 → q.2.1 ≤ 1000 → ∃ c v', c ≤ ccN m ∧ (∀ n, f_X10_giveAll_19 (n + c) (nI t) v = f_X10_giveAll_19 n (nI t + (-1)) v') ∧ gvM w (srG w m t a q) v' ∧ ∀ u, u < t → v'.1 51 u = v.1 51 u := by
  intro m
  induction m with
  | zero =>
    intro t ht a q v ha hc hp hv hq hf
    have : t = 5 := by omega
    subst this
    obtain ⟨v', e, g, r⟩ := m_giveOne h ha hc hp hq hf
    refine ⟨1, v', Nat.le_refl _, fun n => ?_, g, fun u _ => by rw [r]⟩
    rw [f_X10_giveAll_19, if_neg (by decide), if_pos (show nI 5 = 5 from rfl), e, Option.bind_some]
  | succ m ih =>
    intro t ht a q v ha hc hp hv hq hf
    have ht5 : t < 5 := by omega
    have e8 : 8 ^ (m + 1) = 8 * 8 ^ m := by rw [Nat.pow_succ, Nat.mul_comm]
    have p8 : 0 < 8 ^ m := Nat.pow_pos (by decide)
    obtain ⟨es, ls⟩ := h.str ht5
    rw [srG_s]
    by_cases hs : sN w t = 0
    · rw [if_pos hs]
      have hc2 := gvM_51 (gvM_51 hc (upd (v.1 51) t (nI 0))) (upd (upd (v.1 51) t (nI 0)) (t + 1) (-1))
      obtain ⟨c, v', hcc, run, g, r⟩ := ih (t + 1) (by omega) a q _ (aOK_s ha hs) hc2 (fun u hu hs2 => by
        rw [wA_s]
        unfold upd
        rw [if_neg (by omega)]
        by_cases e : u = t
        · subst e; omega
        · rw [if_neg e]; exact hp u (by omega) hs2) (by rw [wA_s]; exact if_pos rfl) (by omega) hf
      have rt : v'.1 51 t = nI 0 := by
        rw [r t (by omega), wA_s]
        unfold upd
        rw [if_neg (by omega), if_pos rfl]
      refine ⟨c + 2, wA v' 51 (upd (v'.1 51) t (nI 1)), by rw [ccN]; omega, fun n => ?_, gvM_51 g _, fun u hu => ?_⟩
      · rw [show n + (c + 2) = (n + 1 + c) + 1 by omega, m_gs h hc.1 ht5 (show 0 ≤ 8 by omega) hv (n + 1 + c)]
        rw [if_pos hs, decide_eq_false (show ¬ 0 < 0 by omega)]
        unfold f_X10_giveAll_90 f_X10_giveAll_124
        rw [if_pos bz, inB_nI ht5 (by decide), if_pos rfl, ix_nI (by omega), mc49 h (gvM_51 hc _).1, es, if_pos (by rw [hs]; rfl), p1, inB_nI (show t + 1 < 6 by omega) (by decide), if_pos rfl, ix_nI (by omega), wS_d, wA_s, run (n + 1), pk_m1]
        rw [m_gs h g.1 ht5 (show 1 ≤ 8 by omega) rt n, if_pos hs, decide_eq_true (show 0 < 1 by omega)]
        unfold f_X10_giveAll_90
        rw [if_neg bnz]
      · rw [wA_s]
        unfold upd
        rw [if_neg (by omega), r u (by omega), wA_s]
        unfold upd
        rw [if_neg (by omega), if_neg (by omega)]
    · rw [if_neg hs]
      generalize hF : (fun b q => if okG w t a b then srG w m (t + 1) (asg a t b) q else q) = F
      have stp : ∀ b, srL F (b + 1) q = if okG w t a b then srG w m (t + 1) (asg a t b) (srL F b q) else srL F b q := by intro b; rw [srL, ← hF]
      have bd : ∀ b, b ≤ 8 → (srL F b q).1 ≤ q.1 + b * 8 ^ m ∧ (srL F b q).2.1 ≤ 1000 := by
        intro b
        induction b with
        | zero => intro _; exact ⟨by show q.1 ≤ _; omega, hf⟩
        | succ b ihb =>
          intro hb
          obtain ⟨c1, c2⟩ := ihb (by omega)
          have em : (b + 1) * 8 ^ m = b * 8 ^ m + 8 ^ m := by rw [Nat.add_mul, Nat.one_mul]
          rw [stp]
          split
          · rename_i ho
            obtain ⟨d1, d2, d3⟩ := srG_b h m (t + 1) (by omega) (asg a t b) (srL F b q) (aOK_u ha (by omega) ho) c2
            exact ⟨by omega, d3⟩
          · exact ⟨by omega, c2⟩
      have L : ∀ j b, b + j = 8 → ∀ v, gvM w (srL F b q) v → gvP w a t v → v.1 51 t = xx b → ∃ c v', c ≤ 1 + j * (1 + ccN m) ∧ (∀ n, f_X10_giveAll_19 (n + c) (nI t) v = f_X10_giveAll_19 n (nI t + (-1)) v') ∧ gvM w (srL F 8 q) v' ∧ ∀ u, u < t → v'.1 51 u = v.1 51 u := by
        intro j
        induction j with
        | zero =>
          intro b hb v hc hp hv
          have : b = 8 := by omega
          subst this
          refine ⟨1, wA v 51 (upd (v.1 51) t (nI 8)), by omega, fun n => ?_, gvM_51 hc _, fun u hu => ?_⟩
          · rw [m_gs h hc.1 ht5 (Nat.le_refl _) hv n, if_neg hs, decide_eq_true (show 7 < 8 by omega)]
            unfold f_X10_giveAll_90
            rw [if_neg bnz]
          · rw [wA_s]
            unfold upd
            rw [if_neg (by omega)]
        | succ j ihj =>
          intro b hb v hc hp hv
          have hb8 : b < 8 := by omega
          obtain ⟨q1, q2⟩ := bd b (by omega)
          have em2 : (j + 1) * (1 + ccN m) = j * (1 + ccN m) + (1 + ccN m) := by rw [Nat.add_mul, Nat.one_mul]
          have hp1 : gvP w a t (wA v 51 (upd (v.1 51) t (nI b))) := by
            intro u hu hs2
            rw [wA_s]
            unfold upd
            rw [if_neg (by omega)]
            exact hp u hu hs2
          have hc1 := gvM_51 hc (upd (v.1 51) t (nI b))
          have ex : nI b = xx (b + 1) := by unfold xx; rw [if_neg (by omega), Nat.add_sub_cancel]
          have first : ∀ n, f_X10_giveAll_19 (n + 1) (nI t) v = if okG w t a b then f_X10_giveAll_124 (f_X10_giveAll_19 n) (nI t) (wA v 51 (upd (v.1 51) t (nI b))) else f_X10_giveAll_19 n (nI t) (wA v 51 (upd (v.1 51) t (nI b))) := by
            intro n
            rw [m_gs h hc.1 ht5 (by omega) hv n, if_neg hs, decide_eq_false (show ¬ 7 < b by omega)]
            unfold f_X10_giveAll_90
            rw [if_pos bz, inB_nI ht5 (by decide), if_pos rfl, ix_nI (by omega), mc49 h hc1.1, es, if_neg (nI_ne0 (by omega) (by omega)), inB_nI (show t < 6 by omega) (by decide), if_pos rfl, wA_s, show upd (v.1 51) t (nI b) t = nI b from if_pos rfl, m_may h hc1.1 ht5 hb8 ha hp1, Option.bind_some]
            dsimp only
            cases okG w t a b <;> rfl
          cases ho : okG w t a b with
          | false =>
            obtain ⟨c, v', hcc, run, g, r⟩ := ihj (b + 1) (by omega) (wA v 51 (upd (v.1 51) t (nI b))) (by rw [stp, ho]; exact hc1) hp1 (by rw [wA_s, ← ex]; exact if_pos rfl)
            refine ⟨c + 1, v', by omega, fun n => ?_, g, fun u hu => ?_⟩
            · rw [← Nat.add_assoc, first, ho, if_neg (by decide), run]
            · rw [r u hu, wA_s]
              unfold upd
              rw [if_neg (by omega)]
          | true =>
            have em : b * 8 ^ m + 8 ^ m ≤ 8 * 8 ^ m := by
              have : (b + 1) * 8 ^ m ≤ 8 * 8 ^ m := Nat.mul_le_mul_right _ (by omega)
              rw [Nat.add_mul, Nat.one_mul] at this
              exact this
            have hc2 := gvM_51 hc1 (upd (upd (v.1 51) t (nI b)) (t + 1) (-1))
            obtain ⟨c, v', hcc, run, g, r⟩ := ih (t + 1) (by omega) (asg a t b) (srL F b q) _ (aOK_u ha hb8 ho) hc2 (by
              intro u hu hs2
              rw [wA_s]
              unfold upd
              rw [if_neg (by omega)]
              have := gvP_u (b := b) hp u hu hs2
              rw [wA_s] at this
              exact this) (by rw [wA_s]; exact if_pos rfl) (by omega) q2
            have ru : ∀ u, u < t + 1 → v'.1 51 u = upd (v.1 51) t (nI b) u := by
              intro u hu
              rw [r u hu, wA_s]
              exact if_neg (by omega)
            obtain ⟨c2, v2, hcc2, run2, g2, r2⟩ := ihj (b + 1) (by omega) v' (by rw [stp, ho]; exact g) (by
              intro u hu hs2
              rw [ru u (by omega)]
              unfold upd
              rw [if_neg (by omega)]
              exact hp u hu hs2) (by rw [ru t (by omega), ← ex]; exact if_pos rfl)
            refine ⟨c2 + c + 1, v2, by omega, fun n => ?_, g2, fun u hu => ?_⟩
            · rw [show n + (c2 + c + 1) = n + c2 + c + 1 by omega, first, ho, if_pos rfl]
              unfold f_X10_giveAll_124
              rw [p1, inB_nI (show t + 1 < 6 by omega) (by decide), if_pos rfl, ix_nI (by omega), wS_d, wA_s, run (n + c2), pk_m1, run2 n]
            · rw [r2 u hu, ru u (by omega)]
              exact if_neg (by omega)
      obtain ⟨c, v', hcc, run, g, r⟩ := L 8 0 (by decide) v hc hp (by rw [hv]; rfl)
      refine ⟨c, v', by rw [ccN]; omega, run, g, r⟩
theorem m_giveAll {w : Wd} (h : Rel w) : ∃ v', f_X10_giveAll w = some v' ∧ gvM w (srG w 5 0 (fun _ => 0) (0, 0, fun _ => 0)) v' := by
  unfold f_X10_giveAll
  simp only [wS_d]
  rw [if_pos (show inB 0 6 = true from rfl), show ix (0 : Int32) = 0 from rfl]
  have s0 : sim w (wA (wA w 33 (upd (w.1 33) 32 0)) 33 (upd ((wA w 33 (upd (w.1 33) 32 0)).1 33) 33 (-1))) := by
    refine ((sim.rf w).wA _ (fun j e => ?_)).wA _ (fun j e => ?_)
    · unfold upd
      rw [if_neg (fun z => by subst z; cases e)]
    · unfold upd
      rw [if_neg (fun z => by subst z; cases e)]
  obtain ⟨c, v', hcc, run, g, -⟩ := m_giveAll_19 h 5 0 (by decide) (fun _ => 0) (0, 0, fun _ => 0) (wA (wA (wA w 33 (upd (w.1 33) 32 0)) 33 (upd ((wA w 33 (upd (w.1 33) 32 0)).1 33) 33 (-1))) 51 (upd ((wA (wA w 33 (upd (w.1 33) 32 0)) 33 (upd ((wA w 33 (upd (w.1 33) 32 0)).1 33) 33 (-1))).1 51) 0 (-1))) (fun u hu => by omega) (by
    refine gvM_51 ⟨s0, ?_, ?_, fun z => absurd z (by decide)⟩ _
    · rw [wA_s, wA_s]; rfl
    · rw [wA_s]; rfl) (fun u hu => by omega) (by rw [wA_s]; rfl) (by decide) (by decide)
  have hc8 : c ≤ 74897 := hcc
  refine ⟨v', ?_, g⟩
  rw [show fu = (fu - c - 1 + 1) + c by have : fu = 100000 := rfl; omega]
  refine (run _).trans ?_
  rw [f_X10_giveAll_19, if_pos (by decide)]
theorem op_given (p : Int32) {w : Wd} (h : Rel w) : Agree (f_X9_given p) (f_X10_given p) w := by
  cases h1 : wi p (-2) 4 with
  | false =>
    refine ⟨-3, w, w, ?_, ?_, h⟩
    · unfold f_X9_given; rw [e_within, Option.bind_some, h1]; rfl
    · unfold f_X10_given; rw [e_in, Option.bind_some, h1]; rfl
  | true =>
    obtain ⟨v, e1, g1⟩ := e_giveAll h
    obtain ⟨b0, b1, b2⟩ := srG_b h 5 0 (by decide) (fun _ => 0) (0, 0, fun _ => 0) (fun u hu => by omega) (by decide)
    have b1' : (srG w 5 0 (fun _ => 0) (0, 0, fun _ => 0)).1 ≤ 32768 := by
      have : 0 + 8 ^ 5 = 32768 := rfl
      exact b1
    have hz : nI (srG w 5 0 (fun _ => 0) (0, 0, fun _ => 0)).1 = 0 ↔ (srG w 5 0 (fun _ => 0) (0, 0, fun _ => 0)).1 = 0 := by
      rw [show (0 : Int32) = nI 0 from rfl, nI_eq (by omega) (by decide)]
    have sim_sr : ∀ u, sim w u → srG u 5 0 (fun _ => 0) (0, 0, fun _ => 0) = srG w 5 0 (fun _ => 0) (0, 0, fun _ => 0) := by
      intro u s
      have r5 : u.1 5 = w.1 5 := s.row 5 (fun _ => rfl)
      have r6 : u.1 6 = w.1 6 := s.row 6 (fun _ => rfl)
      have r21 : u.1 21 = w.1 21 := s.row 21 (fun _ => rfl)
      have r22 : u.1 22 = w.1 22 := s.row 22 (fun _ => rfl)
      have f1 : sN u = sN w := by funext t; unfold sN; rw [r21]
      have f2 : difN u = difN w := by funext t b; unfold difN rgN; rw [f1, r6]
      have f3 : ∀ a t, dsum u a t = dsum w a t := by
        intro a t
        induction t with
        | zero => rfl
        | succ t ih => rw [dsum, dsum, ih, f1, f2]
      have f4 : okG u = okG w := by
        funext t a b
        unfold okG suB ngB tch
        rw [f1, f2, ybI_sim s, r5, r22]
        unfold slN gpN
        rw [r5]
      have f5 : ∀ m t a q, srG u m t a q = srG w m t a q := by
        intro m
        induction m with
        | zero => intro t a q; rw [srG_0, srG_0, f3]
        | succ m ih =>
          intro t a q
          rw [srG_s, srG_s, f1, f4, ih]
          congr 2
          funext b q
          rw [ih]
      exact f5 5 0 _ _
    generalize hq : srG w 5 0 (fun _ => 0) (0, 0, fun _ => 0) = q at g1 b0 b1 b1' b2 hz sim_sr
    have pcase : p ≠ -1 → p ≠ -2 → ∃ t, t < 5 ∧ p = nI t := by
      intro n1 n2
      unfold wi at h1
      simp only [Bool.and_eq_true, decide_eq_true_eq, fa_le] at h1
      rw [Ne, fa_eq] at n1 n2
      rw [show (-2 : Int32).toInt = -2 from rfl] at h1 n2
      rw [show (4 : Int32).toInt = 4 from rfl] at h1
      rw [show (-1 : Int32).toInt = -1 from rfl] at n1
      refine ⟨p.toInt.toNat, by omega, ?_⟩
      rw [fa_eq, nI_toInt (by omega)]
      omega
    refine Agree.ask (a := if p = -1 then nI q.1 else if q.1 = 0 then -1 else if p = -2 then nI q.2.1 else if sN w (ix p) = 0 then -1 else nI (q.2.2 (ix p))) h ⟨v, ?_, g1.1⟩ (fun u hu s => ?_)
    · obtain ⟨s1, -, c1, c2⟩ := g1
      unfold f_X9_given f_X5_answer
      rw [e_within, Option.bind_some, h1]
      dsimp only
      rw [if_neg bnz, e1, Option.bind_some, c1]
      by_cases p1' : p = -1
      · rw [if_pos p1', if_pos p1', Option.bind_some]
      · rw [if_neg p1', if_neg p1']
        by_cases z : q.1 = 0
        · rw [if_pos (hz.mpr z), if_pos z, Option.bind_some]
        · rw [if_neg (fun c => z (hz.mp c)), if_neg z]
          obtain ⟨c3, c4⟩ := c2 (by omega)
          by_cases p2 : p = -2
          · rw [if_pos p2, if_pos p2, Option.bind_some, c3]
          · rw [if_neg p2, if_neg p2]
            obtain ⟨t, ht, rfl⟩ := pcase p1' p2
            rw [e_told h s1 ht, Option.bind_some, ix_nI (by omega)]
            dsimp only
            by_cases hs : sN w t = 0
            · rw [decide_eq_false (show ¬ 0 < sN w t by omega), if_pos bz, if_pos hs, Option.bind_some]
            · rw [decide_eq_true (show 0 < sN w t by omega), if_neg bnz, if_neg hs, e_at (k := 26) (by decide) lay_26, Option.bind_some, Option.bind_some, atv_in ht (by decide), c4 t ht (by omega)]
    · obtain ⟨x, e2, g2⟩ := m_giveAll hu
      rw [sim_sr u s] at g2
      obtain ⟨s2, c1, c2, c3⟩ := g2
      refine ⟨x, ?_, s2⟩
      unfold f_X10_given
      rw [e_in, Option.bind_some, h1]
      dsimp only
      rw [if_neg bnz, e2, Option.bind_some, c1, c2]
      by_cases p1' : p = -1
      · rw [if_pos p1', if_pos p1']
      · rw [if_neg p1', if_neg p1']
        by_cases z : q.1 = 0
        · rw [if_pos z, if_pos rfl, if_pos z]
        · rw [if_neg z, if_neg z, if_neg (fun c => by
            rw [fa_eq, nI_toInt (by omega), show (-1 : Int32).toInt = -1 from rfl] at c; omega)]
          by_cases p2 : p = -2
          · rw [if_pos p2, if_pos p2]
          · rw [if_neg p2, if_neg p2]
            obtain ⟨t, ht, rfl⟩ := pcase p1' p2
            rw [inB_nI ht (by decide), if_pos rfl, ix_nI (by omega), c3 (by omega) t ht]
            have f1 : sN u t = sN w t := by unfold sN; rw [s.row 21 (fun _ => rfl)]
            rw [f1]
