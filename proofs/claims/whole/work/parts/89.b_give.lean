/-! given: the class -/
/-- tables of who suits and who touches -/
def gvT (w v : Wd) : Prop := (∀ t, t < 5 → ∀ i, i < 32 → bt (v.1 23 t) i = (decide (i < 8) && suB w t i)) ∧ ∀ x, x < 8 → bt (w.1 5 0) x = true → ∀ b, b < 8 → bt (w.1 5 0) b = true → bt (v.1 24 x) b = tch w x b
def gvC (w : Wd) (q : Nat × Nat × (Nat → Nat)) (v : Wd) : Prop := sim w v ∧ gvT w v ∧ v.1 20 7 = nI q.1 ∧ (0 < q.1 → v.1 20 8 = nI q.2.1 ∧ ∀ t, t < 5 → 0 < sN w t → v.1 26 t = nI (q.2.2 t))
def gvR (w : Wd) (a : Nat → Nat) (t : Nat) (v : Wd) : Prop := ∀ u, u < t → 0 < sN w u → v.1 25 u = nI (a u)
theorem e_told {w v : Wd} (h : Rel w) (s : sim w v) {t : Nat} (ht : t < 5) : f_X5_isTold (nI t) v = some (b2i (decide (0 < sN w t)), v) := by
  obtain ⟨e, l⟩ := h.str ht
  rw [e_isTold ht, s.row 21 (fun _ => rfl), e]
  congr 2
  congr 1
  rw [decide_eq_decide, show (0 : Int32) = nI 0 from rfl, nI_ltI (by decide) (by omega)]
theorem e_diff {w v : Wd} (h : Rel w) (s : sim w v) {t b : Nat} (ht : t < 5) (hb : b < 8) (tb : bt (w.1 5 0) b = true) : f_X5_difference (nI t) (nI b) v = some (nI (difN w t b), v) := by
  obtain ⟨e, l⟩ := h.str ht
  obtain ⟨e2, l2⟩ := h.rdg hb tb
  unfold f_X5_difference
  rw [e_at (k := 21) (by decide) lay_21, Option.bind_some, atv_in ht (by decide), s.row 21 (fun _ => rfl), e]
  dsimp only
  rw [show f_X0_part (nI b) 3 v = _ from e_part (k := 3) hb (by decide) v, Option.bind_some, s.row 6 (fun _ => rfl), e2]
  dsimp only
  rw [← tI_nI, ← tI_nI, tI_sb, tI_abs (by unfold smI; omega)]
  rfl
theorem e_kib_33 {v : Wd} (B : Nat → Int32) : ∀ (n i : Nat), i ≤ 5 → 5 - i < n → f_X5_keepIfBetter_33 n (nI i) (wA v 26 (pfR (v.1 25) B i)) = some (wA v 26 (pfR (v.1 25) B 5)) := by
  intro n
  induction n with
  | zero => intro i _ h; omega
  | succ n ih =>
    intro i hi hn
    rw [f_X5_keepIfBetter_33]
    by_cases h5 : i = 5
    · subst h5
      rw [if_pos (by decide)]
    · have i1 := ih (i + 1) (by omega) (by omega)
      rw [if_neg (n5 (by omega)), e_at (k := 25) (by decide) lay_25, Option.bind_some, atv_in (by omega) (by decide)]
      dsimp only
      rw [e_put (k := 26) (by decide) lay_26, Option.bind_some, ptv_in (by omega) (by decide), wA_s, wA_wA, wA_n _ _ (by decide), pfR_s, p1]
      exact i1
theorem e_kib_26 (x : Int32) (v : Wd) : f_X5_keepIfBetter_26 x v = some (wA (wA v 20 (upd (v.1 20) 8 x)) 26 (pfR (v.1 25) (v.1 26) 5)) := by
  unfold f_X5_keepIfBetter_26
  rw [wS_d]
  have := e_kib_33 (v := wA v 20 (upd (v.1 20) 8 x)) (v.1 26) fu 0 (by decide) (by decide)
  rw [pfR_0] at this
  have z : wA (wA v 20 (upd (v.1 20) 8 x)) 26 (v.1 26) = wA v 20 (upd (v.1 20) 8 x) := by
    have := wA_self (wA v 20 (upd (v.1 20) 8 x)) 26
    rw [wA_n _ _ (by decide)] at this
    exact this
  rw [z] at this
  exact this
theorem e_keep {w v : Wd} (h : Rel w) {q : Nat × Nat × (Nat → Nat)} {a : Nat → Nat} (ha : aOK w a 5) (hc : gvC w q v) (ht : gvR w a 5 v) (hq : q.1 + 1 ≤ 40000) (hf : q.2.1 ≤ 1000) : ∃ v', f_X5_keepIfBetter (nI (dsum w a 5)) v = some v' ∧ gvC w (kpG q (dsum w a 5) a) v' ∧ gvR w a 5 v' := by
  obtain ⟨s, ⟨g1, g2⟩, c1, c2⟩ := hc
  have hd := dsum_b h 5 (Nat.le_refl _) ha
  have sA : sim w (wA v 20 (upd (v.1 20) 7 (nI (q.1 + 1)))) := s.wA _ (fun j e => by
    unfold upd
    rw [if_neg (fun z => by subst z; cases e)])
  have better : (q.1 = 0 ∨ dsum w a 5 < q.2.1) → ∃ v', f_X5_keepIfBetter_26 (nI (dsum w a 5)) (wA v 20 (upd (v.1 20) 7 (nI (q.1 + 1)))) = some v' ∧ gvC w (kpG q (dsum w a 5) a) v' ∧ gvR w a 5 v' := by
    intro hb
    refine ⟨_, e_kib_26 _ _, ?_, ?_⟩
    · refine ⟨?_, ?_, ?_, ?_⟩
      · refine (sA.wA _ (fun j e => ?_)).wA _ (fun j e => by cases e)
        unfold upd
        rw [if_neg (fun z => by subst z; cases e)]
      · refine ⟨?_, ?_⟩
        · intro t ht i hi
          rw [wA_n _ _ (by decide), wA_n _ _ (by decide), wA_n _ _ (by decide)]
          exact g1 t ht i hi
        · intro x hx tx b hb tb
          rw [wA_n _ _ (by decide), wA_n _ _ (by decide), wA_n _ _ (by decide)]
          exact g2 x hx tx b hb tb
      · rw [wA_n _ _ (by decide), wA_s, wA_s]
        unfold upd kpG
        rw [if_neg (by decide), if_pos rfl, if_pos hb]
      · intro _
        unfold kpG
        rw [if_pos hb, wA_n (k := 26) (a := 20) _ _ (by decide), wA_s, wA_s, wA_s]
        constructor
        · rfl
        · intro t h5 hs
          unfold pfR
          rw [if_pos h5, wA_n _ _ (by decide)]
          exact ht t h5 hs
    · intro u hu hs
      rw [wA_n _ _ (by decide), wA_n _ _ (by decide), wA_n _ _ (by decide)]
      exact ht u hu hs
  unfold f_X5_keepIfBetter
  rw [c1, p1]
  simp only [wS_d]
  rw [wA_s, show upd (v.1 20) 7 (nI (q.1 + 1)) 7 = nI (q.1 + 1) from if_pos rfl, show upd (v.1 20) 7 (nI (q.1 + 1)) 8 = v.1 20 8 from if_neg (by decide)]
  by_cases h0 : q.1 = 0
  · rw [if_pos (by rw [h0]; rfl)]
    exact better (Or.inl h0)
  · rw [if_neg (fun z => h0 (by have := (nI_eq (b := 1) (by omega) (by decide)).mp z; omega))]
    obtain ⟨c3, c4⟩ := c2 (by omega)
    rw [c3]
    by_cases hl : q.2.1 ≤ dsum w a 5
    · rw [if_pos (nI_le hl (by omega))]
      refine ⟨_, rfl, ⟨sA, ⟨?_, ?_⟩, ?_, ?_⟩, ?_⟩
      · intro t ht i hi
        rw [wA_n _ _ (by decide)]
        exact g1 t ht i hi
      · intro x hx tx b hb tb
        rw [wA_n _ _ (by decide)]
        exact g2 x hx tx b hb tb
      · rw [wA_s]
        unfold upd kpG
        rw [if_pos rfl, if_neg (by omega)]
      · intro _
        unfold kpG
        rw [if_neg (by omega), wA_s, wA_n _ _ (by decide), show upd (v.1 20) 7 (nI (q.1 + 1)) 8 = v.1 20 8 from if_neg (by decide)]
        exact ⟨c3, c4⟩
      · intro u hu hs
        rw [wA_n _ _ (by decide)]
        exact ht u hu hs
    · rw [if_neg (nI_ge (by omega) (by omega))]
      exact better (Or.inr (by omega))
/-- who is open to t -/
def tcB (w : Wd) (t : Nat) (a : Nat → Nat) (b u : Nat) : Bool := decide (sN w u = 0) || (!bt (w.1 22 t) u || tch w (a u) b)
theorem e_open_11 {w v : Wd} (h : Rel w) {q : Nat × Nat × (Nat → Nat)} (hc : gvC w q v) {t : Nat} (ht : t < 5) {a : Nat → Nat} (ha : aOK w a t) (htr : gvR w a t v) : ∀ (n u : Nat) (x : Int32), u ≤ t → t - u < n → (∀ b, b < 8 → bt x b = (suB w t b && alB (tcB w t a b) u)) → ∃ y, f_X5_openTo_11 n (nI t) x (nI u) v = some (y, v) ∧ ∀ b, b < 8 → bt y b = (suB w t b && alB (tcB w t a b) t) := by
  obtain ⟨s, ⟨g1, g2⟩, -, -⟩ := hc
  intro n
  induction n with
  | zero => intro u _ _ h; omega
  | succ n ih =>
    intro u x hu hn hx
    rw [f_X5_openTo_11]
    by_cases e : u = t
    · subst e
      rw [if_pos (nI_le (Nat.le_refl _) (by omega))]
      exact ⟨x, rfl, hx⟩
    · have hut : u < t := by omega
      have skip : (∀ b, b < 8 → tcB w t a b u = true) → ∃ y, f_X5_openTo_11 n (nI t) x (nI (u + 1)) v = some (y, v) ∧ ∀ b, b < 8 → bt y b = (suB w t b && alB (tcB w t a b) t) := by
        intro z
        refine ih (u + 1) x (by omega) (by omega) (fun b hb => ?_)
        rw [hx b hb, alB, z b hb, Bool.and_true]
      rw [if_neg (nI_ge hut (by omega)), e_told h s (by omega), Option.bind_some]
      dsimp only
      rw [p1]
      by_cases hs : sN w u = 0
      · rw [decide_eq_false (by omega), if_pos bz]
        exact skip (fun b _ => by unfold tcB; rw [decide_eq_true hs, Bool.true_or])
      · rw [decide_eq_true (by omega), if_neg bnz, e_at (k := 22) (by decide) lay_22, Option.bind_some, atv_in ht (by decide), s.row 22 (fun _ => rfl)]
        dsimp only
        rw [e_has _ (by omega), Option.bind_some]
        dsimp only
        cases hb : bt (w.1 22 t) u with
        | false =>
          rw [if_pos bz]
          exact skip (fun b _ => by unfold tcB; rw [hb, Bool.not_false, Bool.true_or, Bool.or_true])
        | true =>
          obtain ⟨a1, a2⟩ := ha u hut (by omega)
          rw [if_neg bnz, e_at (k := 25) (by decide) lay_25, Option.bind_some, atv_in (by omega) (by decide), htr u hut (by omega)]
          dsimp only
          rw [e_at (k := 24) (by decide) lay_24, Option.bind_some, atv_in a1 (by decide)]
          dsimp only
          refine ih (u + 1) _ (by omega) (by omega) (fun b hb' => ?_)
          rw [b_and, hx b hb', alB]
          unfold tcB
          rw [decide_eq_false hs, hb, Bool.false_or, Bool.not_true, Bool.false_or]
          cases tb : bt (w.1 5 0) b with
          | false =>
            have : suB w t b = false := by unfold suB; rw [tb, Bool.false_and]
            rw [this]; rfl
          | true =>
            rw [g2 (a u) a1 a2 b hb' tb, Bool.and_assoc]
theorem e_openTo {w v : Wd} (h : Rel w) {q : Nat × Nat × (Nat → Nat)} (hc : gvC w q v) {t : Nat} (ht : t < 5) {a : Nat → Nat} (ha : aOK w a t) (htr : gvR w a t v) : ∃ y, f_X5_openTo (nI t) v = some (y, v) ∧ ∀ b, b < 8 → bt y b = (suB w t b && alB (tcB w t a b) t) := by
  unfold f_X5_openTo
  rw [e_at (k := 23) (by decide) lay_23, Option.bind_some, atv_in ht (by decide)]
  exact e_open_11 h hc ht ha htr fu 0 _ (Nat.zero_le _) (Nat.lt_of_le_of_lt (show t - 0 ≤ 5 by omega) (by decide)) (fun b hb => by
    rw [hc.2.1.1 t ht b (by omega), decide_eq_true hb, Bool.true_and]
    show _ = (_ && true)
    rw [Bool.and_true])
def usB (w : Wd) (a : Nat → Nat) (b u : Nat) : Bool := decide (0 < sN w u) && decide (a u = b)
theorem ok_split (w : Wd) (t : Nat) (a : Nat → Nat) (b : Nat) : ∀ n, alB (ngB w t a b) n = (alB (tcB w t a b) n && !exB (usB w a b) n)
  | 0 => rfl
  | n + 1 => by
    rw [alB, alB, exB, ok_split w t a b n]
    generalize alB (tcB w t a b) n = X
    generalize exB (usB w a b) n = Y
    unfold ngB tcB usB
    by_cases h1 : sN w n = 0
    · rw [decide_eq_true h1, decide_eq_false (show ¬ 0 < sN w n by omega)]; simp
    · rw [decide_eq_false h1, decide_eq_true (show 0 < sN w n by omega)]
      by_cases h2 : a n = b
      · rw [decide_eq_true h2, decide_eq_false (fun z => z h2)]; simp
      · rw [decide_eq_false h2, decide_eq_true h2]
        cases X <;> cases Y <;> cases bt (w.1 22 t) n <;> cases tch w (a n) b <;> rfl
def usd (w : Wd) (a : Nat → Nat) (t : Nat) (x : Int32) : Prop := ∀ b, b < 8 → bt x b = exB (usB w a b) t
theorem exB_c2 {p q : Nat → Bool} {n : Nat} (h : ∀ x, x < n → p x = q x) : exB p n = exB q n := exB_cong h
theorem usd_u {w : Wd} {a : Nat → Nat} {t b : Nat} {x : Int32} (hx : usd w a t x) (hs : 0 < sN w t) (hb : b < 8) : usd w (asg a t b) (t + 1) (x ||| jshl 1 (nI b)) := by
  intro c hc
  rw [bt_one _ (by omega) (by omega), hx c hc, exB]
  congr 1
  · refine exB_cong (fun u hu => ?_)
    unfold usB
    rw [asg_lt hu]
  · unfold usB
    rw [asg_t, decide_eq_true hs, Bool.true_and, decide_eq_decide]
    exact eq_comm
theorem usd_s {w : Wd} {a : Nat → Nat} {t : Nat} {x : Int32} (hx : usd w a t x) (hs : sN w t = 0) : usd w a (t + 1) x := by
  intro c hc
  rw [hx c hc, exB]
  unfold usB
  rw [decide_eq_false (show ¬ 0 < sN w t by omega), Bool.false_and, Bool.or_false]
theorem bt_not (x : Int32) {i : Nat} (hi : i < 32) : bt (x ^^^ (-1)) i = !bt x i := by
  have h1 : bt (-1) i = true := (by decide +kernel : ∀ i, i < 32 → bt (-1) i = true) i hi
  rw [b_xor, h1]
  cases bt x i <;> rfl
theorem e_giveFrom {w : Wd} (h : Rel w) : ∀ m t, t + m = 5 → ∀ (a : Nat → Nat) (q : Nat × Nat × (Nat → Nat)) (v : Wd) (x : Int32), aOK w a t → usd w a t x → gvC w q v → gvR w a t v → q.1 + 8 ^ m ≤ 40000 → q.2.1 ≤ 1000 → ∃ v', f_X5_giveFrom_n (m + 1) (nI t) x (nI (dsum w a t)) v = some v' ∧ gvC w (srG w m t a q) v' ∧ gvR w a t v' := by
  intro m
  induction m with
  | zero =>
    intro t ht a q v x ha hx hc htr hq hf
    have : t = 5 := by omega
    subst this
    rw [f_X5_giveFrom_n]
    unfold f_X5_giveFrom_r
    obtain ⟨v', e, g, r⟩ := e_keep h ha hc htr hq hf
    rw [if_neg (by decide), e, Option.bind_some]
    exact ⟨v', rfl, g, r⟩
  | succ m ih =>
    intro t ht a q v x ha hx hc htr hq hf
    have ht5 : t < 5 := by omega
    have e8 : 8 ^ (m + 1) = 8 * 8 ^ m := by rw [Nat.pow_succ, Nat.mul_comm]
    have p8 : 0 < 8 ^ m := Nat.pow_pos (by decide)
    rw [f_X5_giveFrom_n]
    unfold f_X5_giveFrom_r
    rw [if_pos (show nI t < 5 from nI_lt (b := 5) ht5 (by decide)), e_told h hc.1 ht5, Option.bind_some]
    dsimp only
    rw [srG_s]
    by_cases hs : sN w t = 0
    · rw [decide_eq_false (show ¬ 0 < sN w t by omega), if_pos bz, if_pos hs, p1]
      obtain ⟨v', e, g, r⟩ := ih (t + 1) (by omega) a q v x (aOK_s ha hs) (usd_s hx hs) hc (fun u hu hu2 => by
        by_cases e : u = t
        · subst e; omega
        · exact htr u (by omega) hu2) (by omega) hf
      have e0 : dsum w a (t + 1) = dsum w a t := by rw [dsum, if_pos hs]; rfl
      rw [e0] at e
      rw [e, Option.bind_some]
      exact ⟨v', rfl, g, fun u hu => r u (by omega)⟩
    · obtain ⟨y, e, hy⟩ := e_openTo h hc ht5 ha htr
      rw [decide_eq_true (show 0 < sN w t by omega), if_neg bnz, if_neg hs, e, Option.bind_some]
      dsimp only
      have hok : ∀ b, b < 8 → bt (y &&& (x ^^^ (-1))) b = okG w t a b := by
        intro b hb
        rw [b_and, bt_not x (by omega), hy b hb, hx b hb]
        unfold okG
        rw [ok_split, Bool.and_assoc]
      generalize hF : (fun b q => if okG w t a b then srG w m (t + 1) (asg a t b) q else q) = F
      have L : ∀ n b, b ≤ 8 → 8 - b < n → ∀ v, gvC w (srL F b q) v → gvR w a t v → ∃ v', f_X5_giveFrom_43 (f_X5_giveFrom_n (m + 1)) n (nI t) x (nI (dsum w a t)) (y &&& (x ^^^ (-1))) (nI b) v = some v' ∧ gvC w (srL F 8 q) v' ∧ gvR w a t v' := by
        have bd : ∀ b, b ≤ 8 → (srL F b q).1 ≤ q.1 + b * 8 ^ m ∧ (srL F b q).2.1 ≤ 1000 := by
          intro b
          induction b with
          | zero => intro _; exact ⟨by show q.1 ≤ _; omega, hf⟩
          | succ b ihb =>
            intro hb
            obtain ⟨c1, c2⟩ := ihb (by omega)
            have em : (b + 1) * 8 ^ m = b * 8 ^ m + 8 ^ m := by rw [Nat.add_mul, Nat.one_mul]
            have stp : srL F (b + 1) q = if okG w t a b then srG w m (t + 1) (asg a t b) (srL F b q) else srL F b q := by rw [srL, ← hF]
            rw [stp]
            split
            · rename_i ho
              obtain ⟨d1, d2, d3⟩ := srG_b h m (t + 1) (by omega) (asg a t b) (srL F b q) (aOK_u ha (by omega) ho) c2
              exact ⟨by omega, d3⟩
            · exact ⟨by omega, c2⟩
        intro n
        induction n with
        | zero => intro b _ h; omega
        | succ n ihn =>
          intro b hb hn v hc htr
          rw [f_X5_giveFrom_43]
          by_cases h8 : b = 8
          · subst h8
            rw [if_pos (by decide)]
            exact ⟨v, rfl, hc, htr⟩
          · have hb8 : b < 8 := by omega
            have stp : srL F (b + 1) q = if okG w t a b then srG w m (t + 1) (asg a t b) (srL F b q) else srL F b q := by rw [srL, ← hF]
            obtain ⟨q1, q2⟩ := bd b (by omega)
            rw [if_neg (n8 hb8), e_has _ (by omega), Option.bind_some, hok b hb8]
            dsimp only
            rw [p1]
            cases ho : okG w t a b with
            | false =>
              rw [if_pos bz]
              refine ihn (b + 1) (by omega) (by omega) v ?_ htr
              rw [stp, ho]
              exact hc
            | true =>
              have tb := okG_su ho
              have sm : sim w (wA v 25 (upd (v.1 25) t (nI b))) := hc.1.wA _ (fun j e => by cases e)
              rw [if_neg bnz, e_put (k := 25) (by decide) lay_25, Option.bind_some, ptv_in ht5 (by decide), e_diff h sm ht5 hb8 tb, Option.bind_some]
              dsimp only
              rw [p1, nI_add, ← dsum_u (a := a) (b := b) hs]
              have em : b * 8 ^ m + 8 ^ m ≤ 8 * 8 ^ m := by
                have : (b + 1) * 8 ^ m ≤ 8 * 8 ^ m := Nat.mul_le_mul_right _ (by omega)
                rw [Nat.add_mul, Nat.one_mul] at this
                exact this
              obtain ⟨v', e', g', r'⟩ := ih (t + 1) (by omega) (asg a t b) (srL F b q) (wA v 25 (upd (v.1 25) t (nI b))) (x ||| jshl 1 (nI b)) (aOK_u ha hb8 ho) (usd_u hx (by omega) hb8) (by
                obtain ⟨_, ⟨g1, g2⟩, c1, c2⟩ := hc
                refine ⟨sm, ⟨?_, ?_⟩, ?_, ?_⟩
                · intro t ht i hi; rw [wA_n _ _ (by decide)]; exact g1 t ht i hi
                · intro x hx tx b hb tb; rw [wA_n _ _ (by decide)]; exact g2 x hx tx b hb tb
                · rw [wA_n _ _ (by decide)]; exact c1
                · rw [wA_n _ _ (by decide), wA_n _ _ (by decide)]; exact c2) (by
                intro u hu hs2
                rw [wA_s]
                unfold upd
                by_cases e : u = t
                · subst e; rw [if_pos rfl, asg_t]
                · rw [if_neg e, asg_lt (by omega)]
                  exact htr u (by omega) hs2) (by omega) q2
              rw [e', Option.bind_some]
              refine ihn (b + 1) (by omega) (by omega) v' ?_ ?_
              · rw [stp, ho]; exact g'
              · intro u hu hs2
                rw [r' u (by omega) hs2, asg_lt hu]
      exact L fu 0 (by decide) (by decide) v hc htr
/-- the tables are made -/
theorem e_suit_4 {w v : Wd} (h : Rel w) (s : sim w v) {t : Nat} (ht : t < 5) : ∀ (n i : Nat), i ≤ 8 → 8 - i < n → f_X5_suitingOf_4 n (nI t) (orS (suB w t) 0 i) (nI i) v = some (orS (suB w t) 0 8, v) := by
  obtain ⟨esl, lsl⟩ := h.slk
  intro n
  induction n with
  | zero => intro i _ h; omega
  | succ n ih =>
    intro i hi hn
    rw [f_X5_suitingOf_4]
    by_cases h8 : i = 8
    · subst h8
      rw [if_pos (by decide)]
    · have hi8 : i < 8 := by omega
      have i1 := ih (i + 1) (by omega) (by omega)
      have no : suB w t i = false → f_X5_suitingOf_4 n (nI t) (orS (suB w t) 0 i) (nI (i + 1)) v = some (orS (suB w t) 0 8, v) := by
        intro e
        rw [orS_f (show suB w t (0 + i) = false by rw [Nat.zero_add]; exact e)] at i1
        exact i1
      rw [if_neg (n8 hi8), e_isBundle, Option.bind_some, s 5 0 rfl]
      dsimp only
      rw [show isT 7 (w.1 5 0) (nI i) = bt (w.1 5 0) i from nI_isT (n := 7) (by omega) (by decide), p1]
      cases tb : bt (w.1 5 0) i with
      | false =>
        rw [if_pos bz]
        exact no (by unfold suB; rw [tb, Bool.false_and])
      | true =>
        have hd := dif_b h ht hi8 tb
        rw [if_neg bnz, e_diff h s ht hi8 tb, Option.bind_some, s 5 9 rfl, esl]
        dsimp only
        by_cases c : difN w t i ≤ slN w
        · rw [if_neg (nI_nlt c (by omega))]
          rw [orS_t (show suB w t (0 + i) = true by rw [Nat.zero_add]; unfold suB; rw [tb, decide_eq_true c]; rfl), Nat.zero_add] at i1
          exact i1
        · rw [if_pos (nI_lt (by omega) (by omega))]
          exact no (by unfold suB; rw [decide_eq_false c, Bool.and_false])
theorem e_yb_ex (a b k : Nat) (ha : a < 14) (hb : b < 14) (hk : k < 2) (w : Wd) : ∃ y, f_X0_yardsBetween (nI a) (nI b) (nI k) w = some (y, w) := by
  unfold f_X0_yardsBetween
  rw [e_begins ha (by omega), Option.bind_some]
  dsimp only
  rw [e_begins hb (by omega), Option.bind_some]
  dsimp only
  rw [e_ends ha hk, Option.bind_some]
  dsimp only
  rw [e_ends hb hk, Option.bind_some]
  exact ⟨_, rfl⟩
theorem ybI_sim {w v : Wd} (s : sim w v) : ybI v = ybI w := by
  funext a b k
  unfold ybI bxI
  rw [s.row 7 (fun _ => rfl)]
theorem e_touch_4 {w v : Wd} (h : Rel w) (s : sim w v) {x : Nat} (hx : x < 8) : ∀ (n i : Nat) (y : Int32), i ≤ 8 → 8 - i < n → (bt (w.1 5 0) x = true → ∀ b, b < i → bt (w.1 5 0) b = true → bt y b = tch w x b) → (∀ b, i ≤ b → b < 8 → bt y b = false) → ∃ z, f_X5_touchedBy_4 n (nI x) y (nI i) v = some (z, v) ∧ (bt (w.1 5 0) x = true → ∀ b, b < 8 → bt (w.1 5 0) b = true → bt z b = tch w x b) := by
  have hv := h.sim s
  obtain ⟨eg, lg⟩ := h.gpk
  intro n
  induction n with
  | zero => intro i _ _ h; omega
  | succ n ih =>
    intro i y hi hn hy hy0
    rw [f_X5_touchedBy_4]
    by_cases h8 : i = 8
    · subst h8
      rw [if_pos (by decide)]
      exact ⟨y, rfl, hy⟩
    · have hi8 : i < 8 := by omega
      have no : (bt (w.1 5 0) x = true → bt (w.1 5 0) i = true → tch w x i = false) → ∃ z, f_X5_touchedBy_4 n (nI x) y (nI (i + 1)) v = some (z, v) ∧ (bt (w.1 5 0) x = true → ∀ b, b < 8 → bt (w.1 5 0) b = true → bt z b = tch w x b) := by
        intro c
        refine ih (i + 1) y (by omega) (by omega) (fun tx b hb tb => ?_) (fun b h1 h2 => hy0 b (by omega) h2)
        by_cases e : b = i
        · subst e; rw [hy0 b (Nat.le_refl _) hi8, c tx tb]
        · exact hy tx b (by omega) tb
      have yes : (bt (w.1 5 0) x = true → bt (w.1 5 0) i = true → tch w x i = true) → ∃ z, f_X5_touchedBy_4 n (nI x) (y ||| jshl 1 (nI i)) (nI (i + 1)) v = some (z, v) ∧ (bt (w.1 5 0) x = true → ∀ b, b < 8 → bt (w.1 5 0) b = true → bt z b = tch w x b) := by
        intro c
        refine ih (i + 1) _ (by omega) (by omega) (fun tx b hb tb => ?_) (fun b h1 h2 => ?_)
        · rw [bt_one _ (by omega) (by omega)]
          by_cases e : b = i
          · subst e; rw [decide_eq_true rfl, Bool.or_true, c tx tb]
          · rw [decide_eq_false e, Bool.or_false]; exact hy tx b (by omega) tb
        · rw [bt_one _ (by omega) (by omega), hy0 b (by omega) h2, decide_eq_false (by omega)]; rfl
      obtain ⟨y0, e0⟩ := e_yb_ex x i 0 (by omega) (by omega) (by decide) v
      obtain ⟨y1, e1⟩ := e_yb_ex x i 1 (by omega) (by omega) (by decide) v
      have t0 : bt (w.1 5 0) x = true → bt (w.1 5 0) i = true → (v.1 5 10 < y0 ↔ ¬ ybI w x i 0 ≤ gpN w) := by
        intro tx ti
        have := e_yb hv (a := x) (b := i) (k := 0) (by omega) (by omega) (by rw [s 5 0 rfl]; exact tx) (by rw [s 5 0 rfl]; exact ti) (by decide)
        rw [e0] at this
        have : y0 = tI (ybI w x i 0) := by rw [ybI_sim s] at this; injection this with z; injection z
        have sb := yb_b h (a := x) (b := i) (k := 0) (by omega) (by omega) tx ti (by decide)
        rw [this, s 5 10 rfl, eg, ← tI_nI, tI_lt (by unfold smI; omega) sb]
        omega
      have t1 : bt (w.1 5 0) x = true → bt (w.1 5 0) i = true → (v.1 5 10 < y1 ↔ ¬ ybI w x i 1 ≤ gpN w) := by
        intro tx ti
        have := e_yb hv (a := x) (b := i) (k := 1) (by omega) (by omega) (by rw [s 5 0 rfl]; exact tx) (by rw [s 5 0 rfl]; exact ti) (by decide)
        rw [e1] at this
        have : y1 = tI (ybI w x i 1) := by rw [ybI_sim s] at this; injection this with z; injection z
        have sb := yb_b h (a := x) (b := i) (k := 1) (by omega) (by omega) tx ti (by decide)
        rw [this, s 5 10 rfl, eg, ← tI_nI, tI_lt (by unfold smI; omega) sb]
        omega
      rw [if_neg (n8 hi8), show f_X0_yardsBetween (nI x) (nI i) 0 v = _ from e0, Option.bind_some]
      dsimp only
      rw [p1]
      by_cases c0 : v.1 5 10 < y0
      · rw [if_pos c0]
        exact no (fun tx ti => by unfold tch; rw [decide_eq_false ((t0 tx ti).mp c0), Bool.false_and])
      · rw [if_neg c0, show f_X0_yardsBetween (nI x) (nI i) 1 v = _ from e1, Option.bind_some]
        dsimp only
        by_cases c1 : v.1 5 10 < y1
        · rw [if_pos c1]
          exact no (fun tx ti => by unfold tch; rw [decide_eq_false ((t1 tx ti).mp c1), Bool.and_false])
        · rw [if_neg c1]
          exact yes (fun tx ti => by
            have z0 : ybI w x i 0 ≤ gpN w := Classical.byContradiction (fun z => c0 ((t0 tx ti).mpr z))
            have z1 : ybI w x i 1 ≤ gpN w := Classical.byContradiction (fun z => c1 ((t1 tx ti).mpr z))
            unfold tch; rw [decide_eq_true z0, decide_eq_true z1]; rfl)
theorem e_giveAll_29 {w : Wd} (h : Rel w) : ∀ (n t : Nat) (v : Wd), t ≤ 5 → 5 - t < n → sim w v → (∀ u, u < t → v.1 23 u = orS (suB w u) 0 8) → (∀ x, x < 8 → bt (w.1 5 0) x = true → ∀ b, b < 8 → bt (w.1 5 0) b = true → bt (v.1 24 x) b = tch w x b) → ∃ v', f_X5_giveAll_29 n (nI t) v = some v' ∧ gvC w (srG w 5 0 (fun _ => 0) (0, 0, fun _ => 0)) v' := by
  intro n
  induction n with
  | zero => intro t v _ h; omega
  | succ n ih =>
    intro t v ht hn s r1 r2
    rw [f_X5_giveAll_29]
    by_cases h5 : t = 5
    · subst h5
      rw [if_pos (by decide)]
      unfold f_X5_giveFrom
      simp only [wS_d]
      rw [wA_s, wA_wA]
      obtain ⟨v', e, g, -⟩ := e_giveFrom h 5 0 (by decide) (fun _ => 0) (0, 0, fun _ => 0) (wA v 20 (upd (upd (v.1 20) 7 0) 8 0)) 0 (fun u hu => by omega) (fun b hb => b_0 b) (by
        refine ⟨s.wA _ (fun j e => ?_), ⟨?_, ?_⟩, ?_, ?_⟩
        · unfold upd
          rw [if_neg (fun z => by subst z; cases e), if_neg (fun z => by subst z; cases e)]
        · intro t ht i hi
          rw [wA_n _ _ (by decide), r1 t ht, bt_orS _ 0 8 (by decide) i hi, decide_eq_true (Nat.zero_le i), Bool.true_and, Nat.zero_add]
        · intro x hx tx b hb tb
          rw [wA_n _ _ (by decide)]
          exact r2 x hx tx b hb tb
        · rw [wA_s]; rfl
        · intro z; exact absurd z (by decide)) (fun u hu => by omega) (by decide) (by decide)
      rw [show f_X5_giveFrom_n 6 0 0 0 (wA v 20 (upd (upd (v.1 20) 7 0) 8 0)) = some v' from e, Option.bind_some]
      exact ⟨v', rfl, g⟩
    · have ht5 : t < 5 := by omega
      unfold f_X5_suitingOf
      rw [if_neg (n5 ht5), show f_X5_suitingOf_4 fu (nI t) 0 0 v = _ from e_suit_4 h s ht5 fu 0 (by decide) (by decide), Option.bind_some]
      dsimp only
      rw [e_put (k := 23) (by decide) lay_23, Option.bind_some, ptv_in ht5 (by decide), p1]
      refine ih (t + 1) _ (by omega) (by omega) (s.wA _ (fun j e => by cases e)) (fun u hu => ?_) (fun x hx tx b hb tb => ?_)
      · rw [wA_s]
        unfold upd
        by_cases e : u = t
        · subst e; rw [if_pos rfl]
        · rw [if_neg e]; exact r1 u (by omega)
      · rw [wA_n _ _ (by decide)]
        exact r2 x hx tx b hb tb
theorem e_giveAll_2 {w : Wd} (h : Rel w) : ∀ (n i : Nat) (v : Wd), i ≤ 8 → 8 - i < n → sim w v → (∀ x, x < i → bt (w.1 5 0) x = true → ∀ b, b < 8 → bt (w.1 5 0) b = true → bt (v.1 24 x) b = tch w x b) → ∃ v', f_X5_giveAll_2 n (nI i) v = some v' ∧ gvC w (srG w 5 0 (fun _ => 0) (0, 0, fun _ => 0)) v' := by
  intro n
  induction n with
  | zero => intro i v _ h; omega
  | succ n ih =>
    intro i v hi hn s r
    rw [f_X5_giveAll_2]
    by_cases h8 : i = 8
    · subst h8
      rw [if_pos (by decide)]
      exact e_giveAll_29 h fu 0 v (by decide) (by decide) s (fun u hu => by omega) r
    · have hi8 : i < 8 := by omega
      unfold f_X5_touchedBy
      obtain ⟨z, e, hz⟩ := e_touch_4 h s hi8 fu 0 0 (by decide) (by decide) (fun _ b hb => by omega) (fun b _ _ => b_0 b)
      rw [if_neg (n8 hi8), show f_X5_touchedBy_4 fu (nI i) 0 0 v = _ from e, Option.bind_some]
      dsimp only
      rw [e_put (k := 24) (by decide) lay_24, Option.bind_some, ptv_in hi8 (by decide), p1]
      refine ih (i + 1) _ (by omega) (by omega) (s.wA _ (fun j e => by cases e)) (fun x hx tx b hb tb => ?_)
      rw [wA_s]
      unfold upd
      by_cases e : x = i
      · subst e; rw [if_pos rfl]; exact hz tx b hb tb
      · rw [if_neg e]; exact r x (by omega) tx b hb tb
theorem e_giveAll {w : Wd} (h : Rel w) : ∃ v', f_X5_giveAll w = some v' ∧ gvC w (srG w 5 0 (fun _ => 0) (0, 0, fun _ => 0)) v' := e_giveAll_2 h fu 0 w (by decide) (by decide) (sim.rf w) (fun x hx => by omega)
