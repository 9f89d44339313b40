/-! the stack -/
def hF (w : Wd) : Nat → Int := paI (qX w) pT pU (hI w) 14
theorem hn14 (w : Wd) : hn w 14 0 = hF w := by unfold hn hF; rw [psI_0]
theorem hF_b (w : Wd) (t : Nat) : 0 ≤ hF w t ∧ hF w t ≤ 10000 := by
  have a2 := paI_up (qX w) pT pU (hI w) 14 t
  have a4 := (hI_b w t).1
  have a5 := hn_b w (k := 14) (n := 0) (by decide) (by decide) t
  rw [hn14] at a5
  refine ⟨?_, a5.2⟩
  unfold hF
  omega
theorem hF_told {w : Wd} {t : Nat} (ht : t < 14) (hb : bt (w.1 5 0) t = true) : 1 ≤ hF w t := by
  have a2 := paI_up (qX w) pT pU (hI w) 14 t
  have : hI w t = 1 := by unfold hI; rw [if_pos ⟨ht, hb⟩]
  unfold hF
  omega
/-- what is not told stays 0 -/
theorem psI_z {q : Nat → Nat → Bool} {pa pb : Nat → Nat} {L : Nat → Int} {c : Nat} (hq : ∀ b, q c b = false) : ∀ n, psI q pa pb L n c = L c
  | 0 => rfl
  | n + 1 => by
    have ih := psI_z (q := q) (pa := pa) (pb := pb) (L := L) hq n
    show stI q (psI q pa pb L n) (pa n) (pb n) c = L c
    unfold stI
    split
    · rename_i h
      unfold uI
      split
      · rename_i e; rw [← e, hq] at h; cases h
      · exact ih
    · exact ih
theorem paI_z {q : Nat → Nat → Bool} {pa pb : Nat → Nat} {L : Nat → Int} {c : Nat} (hq : ∀ b, q c b = false) : ∀ k, paI q pa pb L k c = L c
  | 0 => rfl
  | k + 1 => by
    show psI q pa pb (paI q pa pb L k) 196 c = L c
    rw [psI_z hq, paI_z hq k]
theorem hF_un {w : Wd} {t : Nat} (hb : bt (w.1 5 0) t = false) : hF w t = 0 := by
  unfold hF
  rw [paI_z (fun b => by unfold qX; rw [bt_ru, hb]; rfl)]
  unfold hI
  rw [if_neg (fun z => by rw [hb] at z; cases z.2)]
theorem hF_pos {w : Wd} {t : Nat} (h : 0 < hF w t) : bt (w.1 5 0) t = true := by
  cases hb : bt (w.1 5 0) t with
  | true => rfl
  | false => rw [hF_un hb] at h; omega
/-- every height above 1 stands on one -/
def atI (q : Nat → Nat → Bool) (L : Nat → Int) : Prop := ∀ t, t < 14 → L t ≤ 1 ∨ ∃ u, u < 14 ∧ q t u = true ∧ L t ≤ L u + 1
theorem atI_st {q : Nat → Nat → Bool} {L : Nat → Int} (h : atI q L) {a b : Nat} (hb : b < 14) : atI q (stI q L a b) := by
  intro t ht
  have up := stI_up q L a b
  have old : stI q L a b t = L t → stI q L a b t ≤ 1 ∨ ∃ u, u < 14 ∧ q t u = true ∧ stI q L a b t ≤ stI q L a b u + 1 := by
    intro e
    rw [e]
    rcases h t ht with c | ⟨u, hu, hq, c⟩
    · exact Or.inl c
    · have := up u
      exact Or.inr ⟨u, hu, hq, by omega⟩
  by_cases hq : q a b = true
  · by_cases e : t = a
    · subst e
      by_cases c : L t < L b + 1
      · right
        refine ⟨b, hb, hq, ?_⟩
        have h1 : stI q L t b t = L b + 1 := by rw [stI_t hq]; unfold uI mxI; rw [if_pos rfl, if_pos c]
        have := up b
        omega
      · exact old (by rw [stI_t hq]; unfold uI mxI; rw [if_pos rfl, if_neg c])
    · exact old (by rw [stI_t hq]; unfold uI; rw [if_neg e])
  · exact old (by rw [stI_f (by simpa using hq)])
theorem atI_ps {q : Nat → Nat → Bool} {pa pb : Nat → Nat} (hp : ∀ m, m < 196 → pa m < 14 ∧ pb m < 14) {L : Nat → Int} (h : atI q L) : ∀ n, n ≤ 196 → atI q (psI q pa pb L n)
  | 0, _ => h
  | n + 1, hn => atI_st (atI_ps hp h n (by omega)) (hp n (by omega)).2
theorem atI_pa {q : Nat → Nat → Bool} {pa pb : Nat → Nat} (hp : ∀ m, m < 196 → pa m < 14 ∧ pb m < 14) {L : Nat → Int} (h : atI q L) : ∀ k, atI q (paI q pa pb L k)
  | 0 => h
  | k + 1 => atI_ps hp (atI_pa hp h k) 196 (Nat.le_refl _)
theorem hF_on {w : Wd} (h : Rel w) (hg : rgX w = 0) {t : Nat} (ht : t < 14) (h2 : 1 < hF w t) : ∃ u, u < 14 ∧ bt (ruX w t) u = true ∧ hF w u + 1 = hF w t := by
  have a : atI (qX w) (paI (qX w) pT pU (hI w) 14) := atI_pa pTU (fun t _ => Or.inl (hI_b w t).2) 14
  have o := okI_pa (rkD_lt h hg) pTU pTUc (hI w) 14
  rcases a t ht with c | ⟨u, hu, hq, c⟩
  · have : hF w t ≤ 1 := by unfold hF; exact c
    omega
  · have d := o t u ht hu hq (rkD_14 hg t ht)
    refine ⟨u, hu, hq, ?_⟩
    unfold hF
    omega
/-- the tallest -/
theorem psI_k {q : Nat → Nat → Bool} {pa pb : Nat → Nat} {L : Nat → Int} {c n : Nat} : ∀ j, (∀ m, n ≤ m → m < n + j → pa m ≠ c) → psI q pa pb L (n + j) c = psI q pa pb L n c
  | 0, _ => rfl
  | j + 1, h => by
    have ih := psI_k (q := q) (pa := pa) (pb := pb) (L := L) (c := c) (n := n) j (fun m h1 h2 => h m h1 (by omega))
    show stI q (psI q pa pb L (n + j)) (pa (n + j)) (pb (n + j)) c = _
    rw [← ih]
    unfold stI
    split
    · unfold uI
      rw [if_neg (fun e => h (n + j) (by omega) (by omega) e.symm)]
    · rfl
theorem tk_le {w : Wd} {M base : Int} {k : Nat} (hk : k < 14) (hb : base ≤ M) (hM : ∀ t, t < 14 → hF w t ≤ M) : ∀ t, t ≤ 14 → tkI w base k t ≤ M
  | 0, _ => hb
  | t + 1, ht => by
    have ih := tk_le (w := w) hk hb hM t (by omega)
    have h1 : hn w k (14 * t + 14) t ≤ hF w t := by
      have a : ∀ j, hn w k (14 * t + 14) t ≤ psI (qX w) pT pU (paI (qX w) pT pU (hI w) k) (14 * t + 14 + j) t := by
        intro j
        induction j with
        | zero => exact Int.le_refl _
        | succ j ih => exact Int.le_trans ih (stI_up _ _ _ _ _)
      have a1 := a (196 - (14 * t + 14))
      rw [show 14 * t + 14 + (196 - (14 * t + 14)) = 196 by omega] at a1
      have b : ∀ j, paI (qX w) pT pU (hI w) (k + 1) t ≤ paI (qX w) pT pU (hI w) (k + 1 + j) t := by
        intro j
        induction j with
        | zero => exact Int.le_refl _
        | succ j ih => exact Int.le_trans ih (psI_up _ _ _ _ 196 _)
      have b1 := b (13 - k)
      rw [show k + 1 + (13 - k) = 14 by omega] at b1
      rw [← paI_s] at a1
      unfold hF
      exact Int.le_trans a1 b1
    have h2 := hM t (by omega)
    rw [tkI]
    unfold mxI
    split <;> omega
theorem tp_le {w : Wd} {M : Int} (h0 : 0 ≤ M) (hM : ∀ t, t < 14 → hF w t ≤ M) : ∀ k, k ≤ 14 → tp w k ≤ M
  | 0, _ => h0
  | k + 1, hk => tk_le (by omega) (tp_le h0 hM k (by omega)) hM 14 (Nat.le_refl _)
theorem tk_ge {w : Wd} {base : Int} {k t : Nat} : ∀ j, hn w k (14 * t + 14) t ≤ tkI w base k (t + 1 + j)
  | 0 => mxI_r _ _
  | j + 1 => Int.le_trans (tk_ge (base := base) j) (mxI_l _ _)
def tl (w : Wd) : Int := tp w 14
theorem tl_ge (w : Wd) {t : Nat} (ht : t < 14) : hF w t ≤ tl w := by
  have h1 := tk_ge (w := w) (base := tp w 13) (k := 13) (t := t) (13 - t)
  rw [show t + 1 + (13 - t) = 14 by omega] at h1
  have h2 : hn w 13 (14 * t + 14) t = hF w t := by
    have := psI_k (q := qX w) (pa := pT) (pb := pU) (L := paI (qX w) pT pU (hI w) 13) (c := t) (n := 14 * t + 14) (196 - (14 * t + 14)) (fun m h1 h2 => by unfold pT; omega)
    rw [show 14 * t + 14 + (196 - (14 * t + 14)) = 196 by omega, ← paI_s] at this
    unfold hn hF
    exact this.symm
  rw [h2] at h1
  exact h1
theorem tk_base {w : Wd} {base : Int} {k : Nat} : ∀ t, base ≤ tkI w base k t
  | 0 => Int.le_refl _
  | t + 1 => Int.le_trans (tk_base t) (mxI_l _ _)
theorem tp_0 (w : Wd) : ∀ k, 0 ≤ tp w k
  | 0 => Int.le_refl _
  | k + 1 => Int.le_trans (tp_0 w k) (tk_base 14)
theorem tl_at {w : Wd} (h : 0 < tl w) : ∃ t, t < 14 ∧ hF w t = tl w := by
  apply Classical.byContradiction
  intro hn
  have : tl w ≤ tl w - 1 := tp_le (by omega) (fun t ht => by
    have h1 := tl_ge w ht
    have h2 : hF w t ≠ tl w := fun e => hn ⟨t, ht, e⟩
    omega) 14 (Nat.le_refl _)
  omega
theorem fst_cong {p q : Nat → Bool} : ∀ {n : Nat}, (∀ k, k < n → p k = q k) → fa_first p n = fa_first q n
  | 0, _ => rfl
  | n + 1, h => by rw [fa_first, fa_first, fst_cong (fun k hk => h k (by omega)), h n (by omega)]
theorem fst_lt {p : Nat → Bool} {n k : Nat} (hk : k < n) (h : p k = true) : fa_first p n ≤ k := by
  rcases Nat.lt_or_ge k (fa_first p n) with c | c
  · rw [fa_first_no p n k c] at h; cases h
  · exact c
theorem fst_is {p : Nat → Bool} {n k : Nat} (hk : k < n) (h : p k = true) (h2 : ∀ j, j < k → p j = false) : fa_first p n = k := by
  have h1 := fst_lt hk h
  rcases Nat.lt_or_ge (fa_first p n) k with c | c
  · have := fa_first_yes p n (by omega)
    rw [h2 _ c] at this; cases this
  · omega
def chn (w : Wd) : Nat → Nat
  | 0 => fa_first (fun t => bt (w.1 5 0) t && decide (hF w t = tl w)) 14
  | k + 1 => fa_first (fun u => bt (ruX w (chn w k)) u && decide (hF w u + 1 = hF w (chn w k))) 14
theorem chn_0 {w : Wd} (h : 0 < tl w) : chn w 0 < 14 ∧ hF w (chn w 0) = tl w ∧ bt (w.1 5 0) (chn w 0) = true := by
  obtain ⟨t, ht, e⟩ := tl_at h
  have ht2 := hF_pos (w := w) (t := t) (by omega)
  have h1 : chn w 0 ≤ t := fst_lt ht (by rw [ht2, decide_eq_true e]; rfl)
  have h2 : (bt (w.1 5 0) (chn w 0) && decide (hF w (chn w 0) = tl w)) = true := fa_first_yes (fun t => bt (w.1 5 0) t && decide (hF w t = tl w)) 14 (show chn w 0 < 14 by omega)
  rw [Bool.and_eq_true, decide_eq_true_eq] at h2
  exact ⟨by omega, h2.2, h2.1⟩
theorem chn_k {w : Wd} (h : Rel w) (hg : rgX w = 0) : ∀ k : Nat, (k : Int) < tl w → chn w k < 14 ∧ hF w (chn w k) = tl w - k
  | 0, h0 => by
    obtain ⟨a, b, c⟩ := chn_0 h0
    exact ⟨a, by omega⟩
  | k + 1, h1 => by
    obtain ⟨a, b⟩ := chn_k h hg k (by omega)
    obtain ⟨u, hu, hq, e⟩ := hF_on h hg a (by omega)
    have h2 : chn w (k + 1) ≤ u := fst_lt hu (by rw [hq, decide_eq_true e]; rfl)
    have h3 : (bt (ruX w (chn w k)) (chn w (k + 1)) && decide (hF w (chn w (k + 1)) + 1 = hF w (chn w k))) = true := fa_first_yes (fun u => bt (ruX w (chn w k)) u && decide (hF w u + 1 = hF w (chn w k))) 14 (show chn w (k + 1) < 14 by omega)
    rw [Bool.and_eq_true, decide_eq_true_eq] at h3
    exact ⟨by omega, by omega⟩
theorem chn_end {w : Wd} (h : Rel w) (hg : rgX w = 0) {k : Nat} (hk : (k : Int) + 1 = tl w) : chn w (k + 1) = 14 := by
  obtain ⟨a, b⟩ := chn_k h hg k (by omega)
  have h1 := fa_first_le (fun u => bt (ruX w (chn w k)) u && decide (hF w u + 1 = hF w (chn w k))) 14
  rcases Nat.lt_or_ge (chn w (k + 1)) 14 with c | c
  · have h3 : (bt (ruX w (chn w k)) (chn w (k + 1)) && decide (hF w (chn w (k + 1)) + 1 = hF w (chn w k))) = true := fa_first_yes (fun u => bt (ruX w (chn w k)) u && decide (hF w u + 1 = hF w (chn w k))) 14 c
    rw [Bool.and_eq_true, decide_eq_true_eq] at h3
    have := hF_told c (ru_told h3.1).2
    omega
  · have : chn w (k + 1) ≤ 14 := h1
    omega
def ffv (P : Nat → Bool) : Int32 := if fa_first P 14 < 14 then nI (fa_first P 14) else -1
theorem e_fst_2 {v : Wd} (x y : Int32) : ∀ (n i : Nat), i ≤ 14 → 14 - i < n → (∀ j, j < i → (bt x j && decide (v.1 16 j = y)) = false) → f_X8_firstOfHeight_2 n x y (nI i) v = some (ffv (fun t => bt x t && decide (v.1 16 t = y)), v) := by
  intro n
  induction n with
  | zero => intro u _ h; omega
  | succ n ih =>
    intro i hi hn hj
    rw [f_X8_firstOfHeight_2]
    by_cases h14 : i = 14
    · subst h14
      rw [if_pos (by decide)]
      unfold ffv
      rw [if_neg (fun c => by
        have h2 := fa_first_yes _ 14 c
        have h3 := hj _ c
        rw [h3] at h2; cases h2)]
    · have hi14 : i < 14 := by omega
      have next : (bt x i && decide (v.1 16 i = y)) = false → f_X8_firstOfHeight_2 n x y (nI (i + 1)) v = some (ffv (fun t => bt x t && decide (v.1 16 t = y)), v) := by
        intro c
        refine ih (i + 1) (by omega) (by omega) (fun j hj' => ?_)
        by_cases e : j = i
        · subst e; exact c
        · exact hj j (by omega)
      rw [if_neg (n14 hi14), e_has _ (by omega), Option.bind_some]
      dsimp only
      rw [p1]
      cases hb : bt x i with
      | false =>
        rw [if_pos bz]
        exact next (by rw [hb]; rfl)
      | true =>
        rw [if_neg bnz, e_at (k := 16) (by decide) lay_16, Option.bind_some, atv_in hi14 (by decide)]
        dsimp only
        by_cases c : v.1 16 i = y
        · rw [if_pos c]
          have e : fa_first (fun t => bt x t && decide (v.1 16 t = y)) 14 = i := fst_is hi14 (by rw [hb, decide_eq_true c]; rfl) hj
          unfold ffv
          rw [e, if_pos hi14]
        · rw [if_neg c]
          exact next (by rw [hb, decide_eq_false c]; rfl)
theorem e_fst {v : Wd} (x y : Int32) : f_X8_firstOfHeight x y v = some (ffv (fun t => bt x t && decide (v.1 16 t = y)), v) := e_fst_2 x y fu 0 (by decide) (by decide) (fun j hj => by omega)
theorem tI_eq {x y : Int} (hx : smI x) (hy : smI y) : (tI x = tI y) = (x = y) := by rw [fa_eq, tI_toInt hx, tI_toInt hy]
theorem tI_sub (x : Int) (k : Nat) : tI x - nI k = tI (x - k) := by
  rw [← tI_nI]
  unfold tI
  rw [Int32.ofInt_sub]
theorem tl_b (w : Wd) : 0 ≤ tl w ∧ tl w ≤ 10000 := ⟨tp_0 w 14, (tp_b 14 (Nat.le_refl _)).2⟩
theorem e_stack_44 {w : Wd} (h : Rel w) (hg : rgX w = 0) {i : Nat} (hi : (i : Int) < tl w) : ∀ (n k : Nat), k ≤ i → i - k < n → f_X8_stackAt_44 n (nI i) (tI (tl w)) (nI (chn w k)) (nI (k + 1)) (hS w 16 14 0) = some (nI (chn w i), hS w 16 14 0) := by
  have tb := tl_b w
  intro n
  induction n with
  | zero => intro u _ h; omega
  | succ n ih =>
    intro k hk hn
    rw [f_X8_stackAt_44]
    by_cases e : k = i
    · subst e
      rw [if_pos (nI_lt (by omega) (by omega))]
    · obtain ⟨c1, c2⟩ := chn_k h hg k (by omega)
      obtain ⟨c3, c4⟩ := chn_k h hg (k + 1) (by omega)
      rw [if_neg (nI_nlt (by omega) (by omega)), e_right c1, Option.bind_some]
      dsimp only
      rw [show ruX (hS w 16 14 0) (chn w k) = ruX w (chn w k) from ruX_w (wA_n _ _ (by decide)) (wA_n _ _ (by decide)) _, e_fst, Option.bind_some]
      dsimp only
      have q : fa_first (fun t => bt (ruX w (chn w k)) t && decide ((hS w 16 14 0).1 16 t = tI (tl w) - nI (k + 1))) 14 = chn w (k + 1) := by
        refine fst_cong (fun t ht => ?_)
        congr 1
        rw [show (hS w 16 14 0).1 16 = _ from wA_s _ _ _, rwL_at (p14_t ht), tI_sub, decide_eq_decide, hn14]
        have b1 := hF_b w t
        have e1 : (tI (hF w t) = tI (tl w - (k + 1 : Nat))) = (hF w t = tl w - (k + 1 : Nat)) := tI_eq (by unfold smI; omega) (by unfold smI; omega)
        rw [e1]
        omega
      rw [show ffv (fun t => bt (ruX w (chn w k)) t && decide ((hS w 16 14 0).1 16 t = tI (tl w) - nI (k + 1))) = nI (chn w (k + 1)) by unfold ffv; rw [q, if_pos c3], p1]
      exact ih (k + 1) (by omega) (by omega)
/-- the answer -/
def stkA (w : Wd) (p : Int32) : Int32 := if rgX w = 0 then (if p = -1 then tI (tl w) else if p < tI (tl w) then nI (chn w (ix p)) else -1) else -1
theorem e_stackAt {w : Wd} (h : Rel w) {p : Int32} (hp : -1 ≤ p) : ∃ v, f_X8_stackAt p w = some (stkA w p, v) ∧ sim w v := by
  unfold f_X8_stackAt stkA
  rw [e_ringed, Option.bind_some]
  dsimp only
  have s1 : sim w (wA w 15 (clR w)) := sim15 _
  have tb := tl_b w
  by_cases hg : rgX w = 0
  · have hv := h.sim s1
    have hg' : rgX (wA w 15 (clR w)) = 0 := by rw [rgX_sim s1]; exact hg
    have e5 : (wA w 15 (clR w)).1 5 0 = w.1 5 0 := s1 5 0 rfl
    have eq : qX (wA w 15 (clR w)) = qX w := by funext t u; unfold qX; rw [ruX_w (wA_n _ _ (by decide)) (wA_n _ _ (by decide))]
    have eh : hI (wA w 15 (clR w)) = hI w := by funext t; unfold hI; rw [e5]
    have ehn : hn (wA w 15 (clR w)) = hn w := by funext k n; unfold hn; rw [eq, eh]
    have etk : ∀ b k t, tkI (wA w 15 (clR w)) b k t = tkI w b k t := by
      intro b k t
      induction t with
      | zero => rfl
      | succ t ih => rw [tkI, tkI, ih, ehn]
    have etp : ∀ k, tp (wA w 15 (clR w)) k = tp w k := by
      intro k
      induction k with
      | zero => rfl
      | succ k ih => rw [tp, tp, ih, etk]
    have etl : tl (wA w 15 (clR w)) = tl w := etp 14
    have eF : hF (wA w 15 (clR w)) = hF w := by rw [← hn14, ← hn14, ehn]
    have ech : ∀ k, chn (wA w 15 (clR w)) k = chn w k := by
      intro k
      induction k with
      | zero => rw [chn, chn, e5, eF, etl]
      | succ k ih => rw [chn, chn, ih, eF, ruX_w (w := w) (wA_n _ _ (by decide)) (wA_n _ _ (by decide))]
    have s2 : sim w (hS (wA w 15 (clR w)) 16 14 0) := s1.wA _ (fun j e => by cases e)
    rw [if_pos hg, if_pos hg, e_measure, Option.bind_some]
    dsimp only
    rw [show tp (wA w 15 (clR w)) 14 = tl w from etl]
    by_cases hm : p = -1
    · rw [if_pos hm, if_pos hm]
      exact ⟨_, rfl, s2⟩
    · rw [if_neg hm, if_neg hm]
      by_cases hlt : p < tI (tl w)
      · rw [if_pos hlt, if_pos hlt, e_fst, Option.bind_some]
        dsimp only
        have hp0 : ¬ p < 0 := by
          intro c
          rw [fa_lt] at c; rw [fa_le] at hp
          rw [fa_eq] at hm
          rw [show (-1 : Int32).toInt = -1 from rfl] at hp hm
          rw [show (0 : Int32).toInt = 0 from rfl] at c
          omega
        obtain ⟨i, hi, rfl⟩ := nI_of hp0
        rw [fa_lt, nI_toInt hi, tI_toInt (by unfold smI; omega)] at hlt
        rw [ix_nI hi]
        have q : fa_first (fun t => bt ((hS (wA w 15 (clR w)) 16 14 0).1 5 0) t && decide ((hS (wA w 15 (clR w)) 16 14 0).1 16 t = tI (tl w))) 14 = chn w 0 := by
          refine fst_cong (fun t ht => ?_)
          rw [s2 5 0 rfl]
          congr 1
          rw [show (hS (wA w 15 (clR w)) 16 14 0).1 16 = _ from wA_s _ _ _, rwL_at (p14_t ht), decide_eq_decide, ehn, hn14]
          have b1 := hF_b w t
          rw [show (tI (hF w t) = tI (tl w)) = (hF w t = tl w) from tI_eq (by unfold smI; omega) (by unfold smI; omega)]
        obtain ⟨c1, -, -⟩ := chn_0 (w := w) (by omega)
        rw [show ffv (fun t => bt ((hS (wA w 15 (clR w)) 16 14 0).1 5 0) t && decide ((hS (wA w 15 (clR w)) 16 14 0).1 16 t = tI (tl w))) = nI (chn w 0) by unfold ffv; rw [q, if_pos c1]]
        have := e_stack_44 hv hg' (i := i) (by rw [etl]; exact hlt) fu 0 (by omega) (Nat.lt_of_le_of_lt (show i - 0 ≤ 10000 by omega) (by decide))
        rw [ech, ech, etl] at this
        exact ⟨_, this, s2⟩
      · rw [if_neg hlt, if_neg hlt]
        exact ⟨_, rfl, s2⟩
  · rw [if_neg hg, if_neg hg]
    exact ⟨_, rfl, s1⟩
/-- the reference's -/
def xx (j : Nat) : Int32 := if j = 0 then -1 else nI (j - 1)
theorem m_st_238 {w : Wd} (h : Rel w) {t : Nat} (ht : t < 14) (x1 x3 : Int32) (k221 : Int32 → Int32 → Int32 → Wd → Option (Int32 × Wd)) : ∀ (n j : Nat) (x4 : Int32), j ≤ 14 → j < n → ((x4 = -1 ∧ ∀ u, j ≤ u → u < 14 → (bt (ruX w t) u && decide (hF w u + 1 = hF w t)) = false) ∨ ∃ m, j ≤ m ∧ m < 14 ∧ (bt (ruX w t) m && decide (hF w m + 1 = hF w t)) = true ∧ (∀ u, j ≤ u → u < m → (bt (ruX w t) u && decide (hF w u + 1 = hF w t)) = false) ∧ x4 = nI m) → f_X10_stack_238 k221 n x1 (nI t) x3 x4 (xx j) (hS w 48 14 0) = k221 x1 (ffv (fun u => bt (ruX w t) u && decide (hF w u + 1 = hF w t))) (x3 + 1) (hS w 48 14 0) := by
  have sm : sim w (hS w 48 14 0) := (sim.rf w).wA _ (fun j e => by cases e)
  have hz := h.sim sm
  intro n
  induction n with
  | zero => intro j _ _ h; omega
  | succ n ih =>
    intro j x4 hj hn hx
    rw [f_X10_stack_238]
    by_cases h0 : j = 0
    · subst h0
      rw [if_pos (by decide)]
      have : x4 = ffv (fun u => bt (ruX w t) u && decide (hF w u + 1 = hF w t)) := by
        unfold ffv
        rcases hx with ⟨e, hu⟩ | ⟨m, -, hm, hp, hu, e⟩
        · rw [if_neg (fun c => by
            have h2 := fa_first_yes _ 14 c
            have h3 := hu _ (Nat.zero_le _) c
            rw [h3] at h2; cases h2), e]
        · rw [fst_is hm hp (fun u hu' => hu u (Nat.zero_le _) hu'), if_pos hm, e]
      rw [this]
    · obtain ⟨i, rfl⟩ : ∃ i, j = i + 1 := ⟨j - 1, by omega⟩
      have ex : xx (i + 1) = nI i := by unfold xx; rw [if_neg (by omega), Nat.add_sub_cancel]
      have ex2 : nI i + (-1) = xx i := by
        cases i with
        | zero => rfl
        | succ i => rw [pk_m1]; unfold xx; rw [if_neg (by omega), Nat.add_sub_cancel]
      have b1 := hF_b w t
      have b2 := hF_b w i
      rw [ex, if_neg (nI_pos (by omega)), m_isPair hz.told hz.e.2.2.2.2.2.2.2.2.2.2.1 ht (by omega), Option.bind_some]
      dsimp only
      rw [show ruX (hS w 48 14 0) t = ruX w t from ruX_w (wA_n _ _ (by decide)) (wA_n _ _ (by decide)) t, ex2]
      have no : (bt (ruX w t) i && decide (hF w i + 1 = hF w t)) = false → f_X10_stack_238 k221 n x1 (nI t) x3 x4 (xx i) (hS w 48 14 0) = k221 x1 (ffv (fun u => bt (ruX w t) u && decide (hF w u + 1 = hF w t))) (x3 + 1) (hS w 48 14 0) := by
        intro c
        refine ih i x4 (by omega) (by omega) ?_
        rcases hx with ⟨e, hu⟩ | ⟨m, hm0, hm, hp, hu, e⟩
        · refine Or.inl ⟨e, fun u h1 h2 => ?_⟩
          by_cases eu : u = i
          · subst eu; exact c
          · exact hu u (by omega) h2
        · refine Or.inr ⟨m, by omega, hm, hp, fun u h1 h2 => ?_, e⟩
          by_cases eu : u = i
          · subst eu; exact c
          · exact hu u (by omega) h2
      cases hb : bt (ruX w t) i with
      | false =>
        rw [if_pos bz]
        exact no (by rw [hb]; rfl)
      | true =>
        rw [if_neg bnz, inB_nI (show i < 14 by omega) (by decide), inB_nI ht (by decide), if_pos rfl, if_pos rfl, ix_nI (by omega), ix_nI (by omega), show (hS w 48 14 0).1 48 = _ from wA_s _ _ _, rwL_at (p14_t ht), rwL_at (p14_t (show i < 14 by omega)), tI_1, hn14]
        simp only [show (tI (hF w i + 1) = tI (hF w t)) = (hF w i + 1 = hF w t) from tI_eq (by unfold smI; omega) (by unfold smI; omega)]
        by_cases c : hF w i + 1 = hF w t
        · rw [if_pos c]
          refine ih i (nI i) (by omega) (by omega) (Or.inr ⟨i, Nat.le_refl _, by omega, by rw [hb, decide_eq_true c]; rfl, fun u h1 h2 => by omega, rfl⟩)
        · rw [if_neg c]
          exact no (by rw [hb, decide_eq_false c]; rfl)
theorem m_st_221e {v : Wd} (x1 x3 : Int32) (n : Nat) : f_X10_stack_221 (n + 1) x1 (-1) x3 v = some (-1, v) := by
  rw [f_X10_stack_221]
  split
  · rfl
  · rw [if_pos rfl]
theorem m_st_221 {w : Wd} (h : Rel w) (hg : rgX w = 0) {i : Nat} (hi : i < 2 ^ 31) : ∀ (n k : Nat), (k : Int) < tl w → k ≤ i → (tl w).toNat - k + 1 < n → f_X10_stack_221 n (nI i) (nI (chn w k)) (nI k) (hS w 48 14 0) = some (if (i : Int) < tl w then nI (chn w i) else -1, hS w 48 14 0) := by
  have tb := tl_b w
  intro n
  induction n with
  | zero => intro k _ _ h; omega
  | succ n ih =>
    intro k hk hki hn
    rw [f_X10_stack_221]
    obtain ⟨c1, c2⟩ := chn_k h hg k hk
    by_cases e : k = i
    · subst e
      rw [if_pos (nI_le (Nat.le_refl _) hi), if_pos hk]
    · have hne : ¬ nI (chn w k) = -1 := by
        rw [fa_eq, nI_toInt (by omega), show (-1 : Int32).toInt = -1 from rfl]; omega
      rw [if_neg (nI_ge (by omega) hi), if_neg hne]
      have := m_st_238 h c1 (nI i) (nI k) (f_X10_stack_221 n) fu 14 (-1) (Nat.le_refl _) (by decide) (Or.inl ⟨rfl, fun u h1 h2 => by omega⟩)
      refine Eq.trans this ?_
      rw [p1]
      by_cases hk1 : ((k + 1 : Nat) : Int) < tl w
      · obtain ⟨c3, c4⟩ := chn_k h hg (k + 1) hk1
        rw [show ffv (fun u => bt (ruX w (chn w k)) u && decide (hF w u + 1 = hF w (chn w k))) = nI (chn w (k + 1)) by
          unfold ffv
          rw [if_pos (show fa_first (fun u => bt (ruX w (chn w k)) u && decide (hF w u + 1 = hF w (chn w k))) 14 < 14 from c3)]
          rfl]
        exact ih (k + 1) hk1 (by omega) (by omega)
      · have ce := chn_end h hg (k := k) (by omega)
        rw [show ffv (fun u => bt (ruX w (chn w k)) u && decide (hF w u + 1 = hF w (chn w k))) = -1 by
          unfold ffv
          rw [if_neg (fun c => by
            have : chn w (k + 1) < 14 := c
            omega)]]
        rw [if_neg (by omega)]
        obtain ⟨m, rfl⟩ : ∃ m, n = m + 1 := ⟨n - 1, by omega⟩
        exact m_st_221e _ _ m
theorem m_st_156 {w : Wd} (h : Rel w) (hg : rgX w = 0) {p : Int32} (hp : -1 ≤ p) : ∀ (n i : Nat) (x2 : Int32), i ≤ 14 → 14 - i < n → ((x2 = -1 ∧ ∀ t, t < i → hF w t ≤ 0) ∨ ∃ m, m < i ∧ x2 = nI m ∧ 0 < hF w m ∧ (∀ t, t < i → hF w t ≤ hF w m) ∧ ∀ t, t < m → hF w t < hF w m) → f_X10_stack_156 n p x2 (nI i) (hS w 48 14 0) = some (stkA w p, hS w 48 14 0) := by
  have tb := tl_b w
  intro n
  induction n with
  | zero => intro k _ _ h; omega
  | succ n ih =>
    intro i x2 hi hn hx
    rw [f_X10_stack_156]
    by_cases h14 : i = 14
    · subst h14
      rw [if_pos (by decide)]
      unfold stkA
      rw [if_pos hg]
      have hp0 : p ≠ -1 → ∃ j : Nat, j < 2 ^ 31 ∧ p = nI j := by
        intro hm
        refine nI_of (fun c => ?_)
        rw [fa_lt] at c; rw [fa_le] at hp
        rw [Ne, fa_eq] at hm
        rw [show (-1 : Int32).toInt = -1 from rfl] at hp hm
        rw [show (0 : Int32).toInt = 0 from rfl] at c
        omega
      rcases hx with ⟨e, hz⟩ | ⟨m, hm, e, hm0, hmx, hmf⟩
      · have t0 : tl w = 0 := by
          rcases (by omega : 0 < tl w ∨ tl w ≤ 0) with c | c
          · obtain ⟨t, ht, e⟩ := tl_at c
            have := hz t ht
            omega
          · omega
        subst e
        by_cases hm : p = -1
        · rw [if_pos hm, if_pos hm, if_pos rfl, t0]; rfl
        · rw [if_neg hm, if_neg hm, t0]
          obtain ⟨j, hj, rfl⟩ := hp0 hm
          rw [if_neg (show ¬ nI j < tI 0 from nI_pos hj)]
          exact m_st_221e _ _ 99999
      · have hm2 : hF w m = tl w := by
          rcases (by omega : 0 < tl w ∨ tl w ≤ 0) with c | c
          · obtain ⟨t, ht, e⟩ := tl_at c
            have h1 := hmx t ht
            have h2 := tl_ge w hm
            omega
          · have h2 := tl_ge w hm
            omega
        have hc : chn w 0 = m := fst_is hm (by rw [hF_pos hm0, decide_eq_true hm2]; rfl) (fun t ht => by
          have := hmf t ht
          rw [decide_eq_false (by omega), Bool.and_false])
        subst e
        have hne : ¬ nI m = -1 := by
          rw [fa_eq, nI_toInt (by omega), show (-1 : Int32).toInt = -1 from rfl]; omega
        by_cases hmp : p = -1
        · rw [if_pos hmp, if_pos hmp, if_neg hne, inB_nI hm (by decide), if_pos rfl, ix_nI (by omega), show (hS w 48 14 0).1 48 = _ from wA_s _ _ _, rwL_at (p14_t hm)]
          rw [hn14, hm2]
        · rw [if_neg hmp, if_neg hmp]
          obtain ⟨j, hj, rfl⟩ := hp0 hmp
          have := m_st_221 h hg hj fu 0 (by omega) (Nat.zero_le _) (Nat.lt_of_le_of_lt (show (tl w).toNat - 0 + 1 ≤ 10001 by omega) (by decide))
          rw [hc] at this
          refine Eq.trans this ?_
          rw [ix_nI hj]
          have e1 : (nI j < tI (tl w)) = ((j : Int) < tl w) := by rw [fa_lt, nI_toInt hj, tI_toInt (by unfold smI; omega)]
          simp only [e1]
    · have hi14 : i < 14 := by omega
      rw [if_neg (n14 hi14), inB_nI hi14 (by decide), if_pos rfl, ix_nI (by omega), show (hS w 48 14 0).1 48 = _ from wA_s _ _ _, rwL_at (p14_t hi14), hn14]
      unfold f_X10_stack_183
      rw [p1]
      have b1 := hF_b w i
      rcases hx with ⟨e, hz⟩ | ⟨m, hm, e, hm0, hmx, hmf⟩
      · subst e
        rw [if_pos rfl]
        have e1 : (tI (hF w i) ≤ 0) = (hF w i ≤ 0) := tI_le (x := hF w i) (y := 0) (by unfold smI; omega) (by unfold smI; omega)
        simp only [e1]
        by_cases c : hF w i ≤ 0
        · rw [if_pos c]
          refine ih (i + 1) (-1) (by omega) (by omega) (Or.inl ⟨rfl, fun t ht => ?_⟩)
          by_cases e : t = i
          · subst e; exact c
          · exact hz t (by omega)
        · rw [if_neg c]
          refine ih (i + 1) (nI i) (by omega) (by omega) (Or.inr ⟨i, by omega, rfl, by omega, fun t ht => ?_, fun t ht => ?_⟩)
          · by_cases e : t = i
            · subst e; exact Int.le_refl _
            · have := hz t (by omega); omega
          · have := hz t (by omega); omega
      · have hne : ¬ nI m = -1 := by
          rw [fa_eq, nI_toInt (by omega), show (-1 : Int32).toInt = -1 from rfl]; omega
        subst e
        have b2 := hF_b w m
        rw [if_neg hne, inB_nI (show m < 14 by omega) (by decide), if_pos rfl, ix_nI (by omega), rwL_at (p14_t (show m < 14 by omega))]
        have e1 : (tI (hF w i) ≤ tI (hF w m)) = (hF w i ≤ hF w m) := tI_le (x := hF w i) (y := hF w m) (by unfold smI; omega) (by unfold smI; omega)
        simp only [e1]
        by_cases c : hF w i ≤ hF w m
        · rw [if_pos c]
          refine ih (i + 1) (nI m) (by omega) (by omega) (Or.inr ⟨m, by omega, rfl, hm0, fun t ht => ?_, hmf⟩)
          by_cases e : t = i
          · subst e; exact c
          · exact hmx t (by omega)
        · rw [if_neg c]
          refine ih (i + 1) (nI i) (by omega) (by omega) (Or.inr ⟨i, by omega, rfl, by omega, fun t ht => ?_, fun t ht => ?_⟩)
          · by_cases e : t = i
            · subst e; exact Int.le_refl _
            · have := hmx t (by omega); omega
          · have := hmx t (by omega); omega
theorem stkA_sim {w v : Wd} (s : sim w v) (p : Int32) : stkA v p = stkA w p := by
  have e5 : v.1 5 0 = w.1 5 0 := s 5 0 rfl
  have eru : ruX v = ruX w := by funext t; exact ruX_w (s.row 5 (fun _ => rfl)) (s.row 10 (fun _ => rfl)) t
  have eq : qX v = qX w := by funext t u; unfold qX; rw [eru]
  have eh : hI v = hI w := by funext t; unfold hI; rw [e5]
  have ehn : hn v = hn w := by funext k n; unfold hn; rw [eq, eh]
  have etk : ∀ b k t, tkI v b k t = tkI w b k t := by
    intro b k t
    induction t with
    | zero => rfl
    | succ t ih => rw [tkI, tkI, ih, ehn]
  have etp : ∀ k, tp v k = tp w k := by
    intro k
    induction k with
    | zero => rfl
    | succ k ih => rw [tp, tp, ih, etk]
  have etl : tl v = tl w := etp 14
  have eF : hF v = hF w := by rw [← hn14, ← hn14, ehn]
  have ech : ∀ k, chn v k = chn w k := by
    intro k
    induction k with
    | zero => rw [chn, chn, e5, eF, etl]
    | succ k ih => rw [chn, chn, ih, eF, eru]
  unfold stkA
  rw [rgX_sim s, etl, ech]
theorem op_stack (p : Int32) {w : Wd} (h : Rel w) : Agree (f_X9_stack p) (f_X10_stack p) w := by
  by_cases hp : -1 ≤ p
  · obtain ⟨v, e1, s1⟩ := e_stackAt h hp
    refine Agree.ask (a := stkA w p) h ⟨v, ?_, s1⟩ (fun u hu s => ?_)
    · unfold f_X9_stack
      rw [if_pos hp, e1, Option.bind_some]
    · unfold f_X10_stack
      rw [if_pos hp, m_ringOf hu, Option.bind_some]
      dsimp only
      have s2 : sim u (wA u 42 (rcR u)) := sim42 _
      have hu2 := hu.sim s2
      by_cases hg : rgX u = 0
      · rw [if_pos hg, m_heights hu2]
        refine ⟨hS (wA u 42 (rcR u)) 48 14 0, ?_, s2.tr (by unfold hS; exact (sim.rf _).wA _ (fun j e => by cases e))⟩
        rw [← stkA_sim (s.tr s2)]
        exact m_st_156 hu2 (by rw [rgX_sim s2]; exact hg) hp fu 0 (-1) (by decide) (by decide) (Or.inl ⟨rfl, fun t ht => by omega⟩)
      · rw [if_neg hg]
        refine ⟨_, ?_, s2⟩
        rw [← stkA_sim s]
        unfold stkA
        rw [if_neg hg]
  · refine ⟨-3, w, w, ?_, ?_, h⟩
    · unfold f_X9_stack; rw [if_neg hp]
    · unfold f_X10_stack; rw [if_neg hp]
