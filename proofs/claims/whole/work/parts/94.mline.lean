/-! the reference's lines -/
def MS (w v : Wd) (p : Nat) (r : Int32) (A : Nat → Int32) : Prop := ∃ t d n f k, v = mR w (nI p) t d n f r A k
def MT (w v : Wd) (p b : Nat) (r : Int32) (A : Nat → Int32) : Prop := ∃ d n f k, v = mR w (nI p) (nI b) d n f r A k
def MF (w v : Wd) (b : Nat) (r : Int32) : Prop := ∃ p t d n A k, v = mR w p t d n (nI b) r A k
theorem MT.ms {w v : Wd} {p b : Nat} {r : Int32} {A : Nat → Int32} (h : MT w v p b r A) : MS w v p r A := by
  obtain ⟨d, n, f, k, rfl⟩ := h
  exact ⟨_, _, _, _, _, rfl⟩
theorem MT.row {w v : Wd} {p b : Nat} {r : Int32} {A : Nat → Int32} (h : MT w v p b r A) : v.1 45 = A := by
  obtain ⟨d, n, f, k, rfl⟩ := h
  exact mR_45
theorem MT.fail {w v : Wd} {p b : Nat} {r : Int32} {A : Nat → Int32} (h : MT w v p b r A) : ∃ v', f_X10_fails v = some (0, v') ∧ MF w v' b r := by
  obtain ⟨d, n, f, k, rfl⟩ := h
  refine ⟨mR w (nI p) (nI b) d n (nI b) r A k, ?_, _, _, _, _, _, _, rfl⟩
  unfold f_X10_fails
  rw [mR_18, mR_s22]
/-- one slot read -/
def RS (w : Wd) (T : Nat → Nat) (N p : Nat) (r : Int32) (A : Nat → Int32) (q : Nat) (res : Option (Int32 × Wd)) : Option Nat → Prop
  | none => ∃ v', res = some (0, v') ∧ MF w v' (tB T N p) r
  | some x => ∃ v', res = some (1, v') ∧ MT w v' (tE T N p) (tB T N p) r (upd A q (nI x))
theorem wi_N2 {c a b : Nat} (hc : c < 2 ^ 31) (ha : a < 2 ^ 31) (hb : b < 2 ^ 31) : wi (nI c) (nI a) (nI b) = (decide (a ≤ c) && decide (c ≤ b)) := by
  unfold wi
  congr 1
  · rw [decide_eq_decide, nI_leI ha hc]
  · rw [decide_eq_decide, nI_leI hc hb]
theorem m_isNumber {w v : Wd} {T : Nat → Nat} {N p : Nat} {r : Int32} {A : Nat → Int32} (h : hTm w T N) (hp : p ≤ N) (hv : MS w v p r A) {q lo hi : Nat} (hq : q < 88) (hlo : lo < 2 ^ 31) (hhi : hi < 2 ^ 31) : RS w T N p r A q (f_X10_isNumber (nI q) (nI lo) (nI hi) v) (nmC 0 lo hi 0 (nmO T (tB T N p) (tE T N p))) := by
  obtain ⟨t, d, n, f, k, rfl⟩ := hv
  obtain ⟨d', n', e1, n1⟩ := m_next h hp (t := t) (d := d) (n := n) (f := f) (r := r) (A := A) (k := k)
  have e27 : f_X10_isNumber_27 (mR w (nI (tE T N p)) (nI (tB T N p)) d' n' f r A (tkV T N (tB T N p) (tE T N p))) = some (0, mR w (nI (tE T N p)) (nI (tB T N p)) d' n' (nI (tB T N p)) r A (tkV T N (tB T N p) (tE T N p))) := by
    unfold f_X10_isNumber_27 f_X10_fails
    rw [mR_18, mR_s22]; rfl
  unfold f_X10_isNumber
  rw [e1, Option.bind_some, mR_2, mR_21]
  cases hn : nmO T (tB T N p) (tE T N p) with
  | none =>
    rw [if_neg (fun z => (tk_num hp).mp z hn), e27]
    exact ⟨_, rfl, _, _, _, _, _, _, rfl⟩
  | some x =>
    obtain ⟨d1, d2⟩ := tk_val hp hn
    have hx := nmO_b hp hn
    rw [if_pos ((tk_num hp).mpr (by rw [hn]; exact fun z => by cases z)), n1 d1, d2, e_in, Option.bind_some, wi_N2 (by omega) hlo hhi]
    dsimp only
    rw [nmC_s]
    by_cases c : lo ≤ x ∧ x ≤ hi
    · rw [decide_eq_true c.1, decide_eq_true c.2, Bool.and_true, if_neg bnz, inB_nI hq (by decide), if_pos rfl, ix_nI (by omega), mR_21, mR_s45]
      rw [if_pos (show lo ≤ x ∧ x ≤ hi ∧ ¬ (0 = 1 ∧ (x : Int) < 0) ∧ ¬ (0 = 2 ∧ (x : Int) = 0) from ⟨c.1, c.2, fun z => by omega, fun z => by omega⟩)]
      exact ⟨_, rfl, _, _, _, _, rfl⟩
    · have : (decide (lo ≤ x) && decide (x ≤ hi)) = false := by
        cases e : (decide (lo ≤ x) && decide (x ≤ hi)) with
        | false => rfl
        | true => simp only [Bool.and_eq_true, decide_eq_true_eq] at e; exact absurd e c
      rw [d2] at n1
      rw [this, if_pos bz, if_neg (fun z => c ⟨z.1, z.2.1⟩), ← n1 d1, e27]
      exact ⟨_, rfl, _, _, _, _, _, _, rfl⟩
theorem m_isOneOf {w v : Wd} {T : Nat → Nat} {N p : Nat} {r : Int32} {A : Nat → Int32} (h : hTm w T N) (hp : p ≤ N) (hv : MS w v p r A) {q k : Nat} (hq : q < 88) (hk : k + 1 < 12) (hk1 : 1 ≤ k) : RS w T N p r A q (f_X10_isOneOf (nI q) (lN (wkN k (wLn k))) (lN (wkN (k + 1) (wLn (k + 1)))) v) (wwO T (tB T N p) (tE T N p) k) := by
  obtain ⟨t, d, n, f, k0, rfl⟩ := hv
  obtain ⟨d', n', e1, n1⟩ := m_next h hp (t := t) (d := d) (n := n) (f := f) (r := r) (A := A) (k := k0)
  have w1 := tk_word (T := T) hp (k := k) (by omega) hk1
  have w2 := tk_word (T := T) hp (k := k + 1) hk (by omega)
  unfold f_X10_isOneOf
  rw [e1, Option.bind_some, mR_2]
  unfold wwO
  cases hw : isW T (tB T N p) (tE T N p) k with
  | true =>
    have c := w1.mpr hw
    rw [if_pos c]
    unfold f_X10_isOneOf_23
    rw [inB_nI hq (by decide), if_pos rfl, ix_nI (by omega), mR_s45, mR_2, if_pos c, if_pos rfl]
    exact ⟨_, rfl, _, _, _, _, rfl⟩
  | false =>
    have c : ¬ lg_cmp (tkV T N (tB T N p) (tE T N p)) (lN (wkN k (wLn k))) = 0 := fun z => by have := w1.mp z; rw [hw] at this; cases this
    rw [if_neg c]
    unfold f_X10_isOneOf_23
    rw [inB_nI hq (by decide), if_pos rfl, ix_nI (by omega), mR_s45, mR_2, if_neg c, if_neg (show ¬ false = true by decide)]
    cases hw2 : isW T (tB T N p) (tE T N p) (k + 1) with
    | true =>
      rw [if_pos (w2.mpr hw2), if_pos rfl]
      exact ⟨_, rfl, _, _, _, _, rfl⟩
    | false =>
      have c2 : ¬ lg_cmp (tkV T N (tB T N p) (tE T N p)) (lN (wkN (k + 1) (wLn (k + 1)))) = 0 := fun z => by have := w2.mp z; rw [hw2] at this; cases this
      rw [if_neg c2, if_neg (show ¬ false = true by decide)]
      unfold f_X10_fails
      rw [mR_18, mR_s22]
      exact ⟨_, rfl, _, _, _, _, _, _, rfl⟩
theorem sl_b : ∀ i, i < 27 → slA i ≤ 2000 ∧ slB i ≤ 2000 := by decide +kernel
theorem nmC_0 {lo hi : Nat} {ah : Int} (o : Option Nat) : nmC 0 lo hi ah o = nmC 0 lo hi 0 o := by
  cases o with
  | none => rfl
  | some x =>
    rw [nmC_s, nmC_s]
    by_cases c : lo ≤ x ∧ x ≤ hi
    · rw [if_pos ⟨c.1, c.2, fun z => by omega, fun z => by omega⟩, if_pos ⟨c.1, c.2, fun z => by omega, fun z => by omega⟩]
    · rw [if_neg (fun z => c ⟨z.1, z.2.1⟩), if_neg (fun z => c ⟨z.1, z.2.1⟩)]
theorem nmC_1 {lo hi a : Nat} (ha : lo ≤ a) (o : Option Nat) : nmC 1 lo hi (a : Int) o = nmC 0 a hi 0 o := by
  cases o with
  | none => rfl
  | some x =>
    rw [nmC_s, nmC_s]
    by_cases c : a ≤ x ∧ x ≤ hi
    · rw [if_pos ⟨by omega, c.2, fun z => by omega, fun z => by omega⟩, if_pos ⟨c.1, c.2, fun z => by omega, fun z => by omega⟩]
    · rw [if_neg (fun z => by
        have h3 := z.2.2.1
        have : ¬ (x : Int) < a := fun y => h3 ⟨rfl, y⟩
        exact c ⟨by omega, z.2.1⟩), if_neg (fun z => c ⟨z.1, z.2.1⟩)]
theorem st_num {w v : Wd} {T : Nat → Nat} {N p : Nat} {r : Int32} {A : Nat → Int32} (h : hTm w T N) (hp : p ≤ N) (hv : MS w v p r A) {q i : Nat} (hq : q < 88) (hi : i < 27) (hf : slF i = 0) {iq lo hh : Int32} (eq : iq = nI q) (elo : lo = nI (slA i)) (ehi : hh = nI (slB i)) (ah : Int) : RS w T N p r A q (f_X10_isNumber iq lo hh v) (vlO T N i p ah) := by
  subst eq; subst elo; subst ehi
  have hb := sl_b i hi
  have := m_isNumber h hp hv hq (lo := slA i) (hi := slB i) (by omega) (by omega)
  unfold vlO
  rw [hf, if_neg (by decide), if_neg (by decide), nmC_0]
  exact this
theorem st_nb {w v : Wd} {T : Nat → Nat} {N p : Nat} {r : Int32} {A : Nat → Int32} (h : hTm w T N) (hp : p ≤ N) (hv : MS w v p r A) {q i : Nat} (hq : q < 88) (hi : i < 27) (hf : slF i = 1) (h0 : slA i = 0) {iq lo hh : Int32} {a : Nat} (ha : a ≤ 9999) (eq : iq = nI q) (elo : lo = nI a) (ehi : hh = nI (slB i)) : RS w T N p r A q (f_X10_isNumber iq lo hh v) (vlO T N i p (a : Int)) := by
  subst eq; subst elo; subst ehi
  have hb := sl_b i hi
  have := m_isNumber h hp hv hq (lo := a) (hi := slB i) (by omega) (by omega)
  unfold vlO
  rw [hf, if_neg (by decide), if_neg (by decide), h0, nmC_1 (Nat.zero_le _)]
  exact this
theorem st_word {w v : Wd} {T : Nat → Nat} {N p : Nat} {r : Int32} {A : Nat → Int32} (h : hTm w T N) (hp : p ≤ N) (hv : MS w v p r A) {q i : Nat} (hq : q < 88) {k : Nat} (hf : (slF i = 3 ∧ k = 8) ∨ (slF i = 4 ∧ k = 10)) {iq : Int32} {c1 c2 : Int64} (eq : iq = nI q) (e1 : c1 = lN (wkN k (wLn k))) (e2 : c2 = lN (wkN (k + 1) (wLn (k + 1)))) (ah : Int) : RS w T N p r A q (f_X10_isOneOf iq c1 c2 v) (vlO T N i p ah) := by
  subst eq; subst e1; subst e2
  unfold vlO
  rcases hf with ⟨hf, rfl⟩ | ⟨hf, rfl⟩
  · rw [if_pos hf]
    exact m_isOneOf h hp hv hq (by decide) (by decide)
  · rw [if_neg (by omega), if_pos hf]
    exact m_isOneOf h hp hv hq (by decide) (by decide)
/-- a line read -/
def LG (w : Wd) (r : Int32) (q cnt : Nat) (A : Nat → Int32) (R : Bool × Nat × (Nat → Nat)) (o : Option (Int32 × Wd)) : Prop :=
  ∃ v', o = some (b2i R.1, v') ∧ (R.1 = true → ∃ A', MS w v' R.2.1 r A' ∧ (∀ i, i < cnt → A' (q + 1 + i) = nI (R.2.2 i)) ∧ ∀ i, i ≤ q → A' i = A i) ∧ (R.1 = false → MF w v' R.2.1 r)
theorem LG_step {w : Wd} {T : Nat → Nat} {N p : Nat} {r : Int32} {A Aj : Nat → Int32} {q cnt first m j : Nat} {ah : Int} {V : Nat → Nat} {res : Option (Int32 × Wd)} {K : Int32 × Wd → Option (Int32 × Wd)} (hp : p ≤ N) (hA1 : ∀ i, i < j → Aj (q + 1 + i) = nI (V i)) (hA2 : ∀ i, i ≤ q → Aj i = A i) (hs : RS w T N p r Aj (q + 1 + j) res (vlO T N (first + j) p ah)) (hK : ∀ v', K (0, v') = some (0, v'))
    (next : ∀ (x : Nat) (v' : Wd) (A' : Nat → Int32), x ≤ 9999 → MT w v' (tE T N p) (tB T N p) r A' → (∀ i, i < j + 1 → A' (q + 1 + i) = nI (asg V j x i)) → (∀ i, i ≤ q → A' i = A i) → LG w r q cnt A (lnR T N first m (j + 1) (tE T N p) (x : Int) (asg V j x)) (K (1, v'))) : LG w r q cnt A (lnR T N first (m + 1) j p ah V) (Option.bind res K) := by
  cases hv : vlO T N (first + j) p ah with
  | none =>
    rw [hv] at hs
    obtain ⟨v', e, f⟩ := hs
    rw [lnR_n hv, e, Option.bind_some, hK]
    exact ⟨v', rfl, (fun z => by cases z), fun _ => f⟩
  | some x =>
    rw [hv] at hs
    obtain ⟨v', e, f⟩ := hs
    rw [lnR_y hv, e, Option.bind_some]
    refine next x v' _ (vlO_b hp hv) f (fun i hi => ?_) (fun i hi => ?_)
    · by_cases c : i = j
      · subst c; rw [pk_us, asg_t]
      · rw [pk_un (by omega), asg_lt (by omega)]; exact hA1 i (by omega)
    · rw [pk_un (by omega)]; exact hA2 i hi
theorem LG_end {w v : Wd} {T : Nat → Nat} {N p b : Nat} {r : Int32} {A A' : Nat → Int32} {q first j : Nat} {ah : Int} {V : Nat → Nat} (ht : MT w v p b r A') (hA1 : ∀ i, i < j → A' (q + 1 + i) = nI (V i)) (hA2 : ∀ i, i ≤ q → A' i = A i) : LG w r q j A (lnR T N first 0 j p ah V) (some (1, v)) := ⟨v, rfl, fun _ => ⟨A', ht.ms, hA1, hA2⟩, fun z => by cases z⟩
theorem LG_bo {w : Wd} {r : Int32} {q cnt : Nat} {A : Nat → Int32} {R : Bool × Nat × (Nat → Nat)} {o : Option (Int32 × Wd)} (h : LG w r q cnt A R o) : LG w r q cnt A R (Option.bind o fun q1 => if bo q1.1 then some (q1.1, q1.2) else none) := by
  obtain ⟨v', e, h1⟩ := h
  refine ⟨v', ?_, h1⟩
  rw [e, Option.bind_some]
  dsimp only
  rw [b2i_bo, if_pos rfl]
theorem i10 : ¬ (1 : Int32) = 0 := by decide
theorem wk_1 : (40136882 : Int64) = lN (wkN 1 (wLn 1)) := congrArg lN (by decide +kernel : 40136882 = wkN 1 (wLn 1))
theorem wk_2 : (257105 : Int64) = lN (wkN 2 (wLn 2)) := congrArg lN (by decide +kernel : 257105 = wkN 2 (wLn 2))
theorem wk_3 : (495765 : Int64) = lN (wkN 3 (wLn 3)) := congrArg lN (by decide +kernel : 495765 = wkN 3 (wLn 3))
theorem wk_4 : (311436 : Int64) = lN (wkN 4 (wLn 4)) := congrArg lN (by decide +kernel : 311436 = wkN 4 (wLn 4))
theorem wk_5 : (397345 : Int64) = lN (wkN 5 (wLn 5)) := congrArg lN (by decide +kernel : 397345 = wkN 5 (wLn 5))
theorem wk_6 : (10334396 : Int64) = lN (wkN 6 (wLn 6)) := congrArg lN (by decide +kernel : 10334396 = wkN 6 (wLn 6))
theorem wk_7 : (5146 : Int64) = lN (wkN 7 (wLn 7)) := congrArg lN (by decide +kernel : 5146 = wkN 7 (wLn 7))
theorem wk_8 : (99677 : Int64) = lN (wkN 8 (wLn 8)) := congrArg lN (by decide +kernel : 99677 = wkN 8 (wLn 8))
theorem wk_9 : (7749089 : Int64) = lN (wkN 9 (wLn 9)) := congrArg lN (by decide +kernel : 7749089 = wkN 9 (wLn 9))
theorem wk_10 : (240023 : Int64) = lN (wkN 10 (wLn 10)) := congrArg lN (by decide +kernel : 240023 = wkN 10 (wLn 10))
theorem wk_11 : (9748424 : Int64) = lN (wkN 11 (wLn 11)) := congrArg lN (by decide +kernel : 9748424 = wkN 11 (wLn 11))
theorem m_bundleL {w v : Wd} {T : Nat → Nat} {N p : Nat} {r : Int32} {A : Nat → Int32} {q : Nat} (h : hTm w T N) (hp : p ≤ N) (hq : q + 11 ≤ 88) (hv : MS w v p r A) : LG w r q 10 A (lnR T N 0 10 0 p (-1) (fun _ => 0)) (f_X10_isBundleLine (nI q) v) := by
  unfold f_X10_isBundleLine
  refine LG_step (first := 0) (m := 9) (j := 0) hp (fun i hi => by omega) (fun _ _ => rfl) (st_num h hp hv (q := q + 1 + 0) (i := 0 + 0) (by omega) (by decide) rfl (nI_add q 1) rfl rfl _) (fun _ => rfl) (fun x0 v0 A0 hx0 ht0 hB0 hC0 => ?_)
  dsimp only
  rw [if_neg i10]
  have hp0 := (tE_b T hp).2.1
  refine LG_step (first := 0) (m := 8) (j := 1) hp0 hB0 hC0 (st_num h hp0 ht0.ms (q := q + 1 + 1) (i := 0 + 1) (by omega) (by decide) rfl (nI_add q 2) rfl rfl _) (fun _ => rfl) (fun x1 v1 A1 hx1 ht1 hB1 hC1 => ?_)
  dsimp only
  rw [if_neg i10]
  have hp1 := (tE_b T hp0).2.1
  refine LG_step (first := 0) (m := 7) (j := 2) hp1 hB1 hC1 (st_num h hp1 ht1.ms (q := q + 1 + 2) (i := 0 + 2) (by omega) (by decide) rfl (nI_add q 3) rfl rfl _) (fun _ => rfl) (fun x2 v2 A2 hx2 ht2 hB2 hC2 => ?_)
  dsimp only
  rw [if_neg i10]
  have hp2 := (tE_b T hp1).2.1
  refine LG_step (first := 0) (m := 6) (j := 3) hp2 hB2 hC2 (st_word h hp2 ht2.ms (q := q + 1 + 3) (i := 0 + 3) (by omega) (Or.inl ⟨rfl, rfl⟩) (nI_add q 4) wk_8 wk_9 _) (fun _ => rfl) (fun x3 v3 A3 hx3 ht3 hB3 hC3 => ?_)
  dsimp only
  rw [if_neg i10]
  have hp3 := (tE_b T hp2).2.1
  refine LG_step (first := 0) (m := 5) (j := 4) hp3 hB3 hC3 (st_num h hp3 ht3.ms (q := q + 1 + 4) (i := 0 + 4) (by omega) (by decide) rfl (nI_add q 5) rfl rfl _) (fun _ => rfl) (fun x4 v4 A4 hx4 ht4 hB4 hC4 => ?_)
  dsimp only
  rw [if_neg i10]
  have hp4 := (tE_b T hp3).2.1
  refine LG_step (first := 0) (m := 4) (j := 5) hp4 hB4 hC4 (st_num h hp4 ht4.ms (q := q + 1 + 5) (i := 0 + 5) (by omega) (by decide) rfl (nI_add q 6) rfl rfl _) (fun _ => rfl) (fun x5 v5 A5 hx5 ht5 hB5 hC5 => ?_)
  dsimp only
  rw [if_neg i10]
  have hp5 := (tE_b T hp4).2.1
  refine LG_step (first := 0) (m := 3) (j := 6) hp5 hB5 hC5 (st_num h hp5 ht5.ms (q := q + 1 + 6) (i := 0 + 6) (by omega) (by decide) rfl (nI_add q 7) rfl rfl _) (fun _ => rfl) (fun x6 v6 A6 hx6 ht6 hB6 hC6 => ?_)
  dsimp only
  rw [if_neg i10]
  have hp6 := (tE_b T hp5).2.1
  refine LG_step (first := 0) (m := 2) (j := 7) hp6 hB6 hC6 (st_num h hp6 ht6.ms (q := q + 1 + 7) (i := 0 + 7) (by omega) (by decide) rfl (nI_add q 8) rfl rfl _) (fun _ => rfl) (fun x7 v7 A7 hx7 ht7 hB7 hC7 => ?_)
  dsimp only
  rw [if_neg i10]
  have hp7 := (tE_b T hp6).2.1
  refine LG_step (first := 0) (m := 1) (j := 8) hp7 hB7 hC7 (st_word h hp7 ht7.ms (q := q + 1 + 8) (i := 0 + 8) (by omega) (Or.inr ⟨rfl, rfl⟩) (nI_add q 9) wk_10 wk_11 _) (fun _ => rfl) (fun x8 v8 A8 hx8 ht8 hB8 hC8 => ?_)
  dsimp only
  rw [if_neg i10]
  have hp8 := (tE_b T hp7).2.1
  refine LG_step (first := 0) (m := 0) (j := 9) hp8 hB8 hC8 (st_num h hp8 ht8.ms (q := q + 1 + 9) (i := 0 + 9) (by omega) (by decide) rfl (nI_add q 10) rfl rfl _) (fun _ => rfl) (fun x9 v9 A9 hx9 ht9 hB9 hC9 => ?_)
  dsimp only
  rw [if_neg i10]
  exact LG_end ht9 hB9 hC9
theorem m_116_0 {w v : Wd} {T : Nat → Nat} {N p : Nat} {r : Int32} {A : Nat → Int32} {q : Nat} (h : hTm w T N) (hp : p ≤ N) (hq : q + 11 ≤ 88) (hv : MS w v p r A) : LG w r q 10 (upd A q 0) (lnR T N 0 10 0 p (-1) (fun _ => 0)) (f_X10_isLine_116 (nI q) 0 (nI q) v) := by
  obtain ⟨t, d, n, f, k, rfl⟩ := hv
  unfold f_X10_isLine_116
  rw [inB_nI (show q < 88 by omega) (by decide), if_pos rfl, if_pos rfl, ix_nI (by omega), mR_s45, mR_45, pk_us, if_pos rfl]
  have hv : MS w (mR w (nI p) t d n f r (upd A q 0) k) p r (upd A q 0) := ⟨_, _, _, _, _, rfl⟩
  exact LG_bo (m_bundleL h hp hq hv)
theorem m_116_1 {w v : Wd} {T : Nat → Nat} {N p : Nat} {r : Int32} {A : Nat → Int32} {q : Nat} (h : hTm w T N) (hp : p ≤ N) (hq : q + 11 ≤ 88) (hv : MS w v p r A) : LG w r q 5 (upd A q 1) (lnR T N 10 5 0 p (-1) (fun _ => 0)) (f_X10_isLine_116 (nI q) 1 (nI q) v) := by
  obtain ⟨t, d, n, f, k, rfl⟩ := hv
  unfold f_X10_isLine_116
  rw [inB_nI (show q < 88 by omega) (by decide), if_pos rfl, if_pos rfl, ix_nI (by omega), mR_s45, mR_45, pk_us, if_neg (show ¬ (1 : Int32) = 0 by decide), if_pos rfl]
  have hv : MS w (mR w (nI p) t d n f r (upd A q 1) k) p r (upd A q 1) := ⟨_, _, _, _, _, rfl⟩
  refine LG_step (first := 10) (m := 4) (j := 0) hp (fun i hi => by omega) (fun _ _ => rfl) (st_num h hp hv (q := q + 1 + 0) (i := 10 + 0) (by omega) (by decide) rfl (nI_add q 1) rfl rfl _) (fun _ => rfl) (fun x0 v0 A0 hx0 ht0 hB0 hC0 => ?_)
  dsimp only
  rw [if_neg i10]
  have hp0 := (tE_b T hp).2.1
  refine LG_step (first := 10) (m := 3) (j := 1) hp0 hB0 hC0 (st_num h hp0 ht0.ms (q := q + 1 + 1) (i := 10 + 1) (by omega) (by decide) rfl (nI_add q 2) rfl rfl _) (fun _ => rfl) (fun x1 v1 A1 hx1 ht1 hB1 hC1 => ?_)
  dsimp only
  rw [if_neg i10]
  have hp1 := (tE_b T hp0).2.1
  refine LG_step (first := 10) (m := 2) (j := 2) hp1 hB1 hC1 (st_num h hp1 ht1.ms (q := q + 1 + 2) (i := 10 + 2) (by omega) (by decide) rfl (nI_add q 3) rfl rfl _) (fun _ => rfl) (fun x2 v2 A2 hx2 ht2 hB2 hC2 => ?_)
  dsimp only
  rw [if_neg i10]
  have hp2 := (tE_b T hp1).2.1
  refine LG_step (first := 10) (m := 1) (j := 3) hp2 hB2 hC2 (st_num h hp2 ht2.ms (q := q + 1 + 3) (i := 10 + 3) (by omega) (by decide) rfl (nI_add q 4) rfl rfl _) (fun _ => rfl) (fun x3 v3 A3 hx3 ht3 hB3 hC3 => ?_)
  dsimp only
  rw [if_neg i10]
  have hp3 := (tE_b T hp2).2.1
  refine LG_step (first := 10) (m := 0) (j := 4) hp3 hB3 hC3 (st_num h hp3 ht3.ms (q := q + 1 + 4) (i := 10 + 4) (by omega) (by decide) rfl (nI_add q 5) rfl rfl _) (fun _ => rfl) (fun x4 v4 A4 hx4 ht4 hB4 hC4 => ?_)
  dsimp only
  rw [if_neg i10]
  exact LG_end ht4 hB4 hC4
theorem m_116_2 {w v : Wd} {T : Nat → Nat} {N p : Nat} {r : Int32} {A : Nat → Int32} {q : Nat} (h : hTm w T N) (hp : p ≤ N) (hq : q + 11 ≤ 88) (hv : MS w v p r A) : LG w r q 3 (upd A q 2) (lnR T N 15 3 0 p (-1) (fun _ => 0)) (f_X10_isLine_116 (nI q) 2 (nI q) v) := by
  obtain ⟨t, d, n, f, k, rfl⟩ := hv
  unfold f_X10_isLine_116
  rw [inB_nI (show q < 88 by omega) (by decide), if_pos rfl, if_pos rfl, ix_nI (by omega), mR_s45, mR_45, pk_us, if_neg (show ¬ (2 : Int32) = 0 by decide), if_neg (show ¬ (2 : Int32) = 1 by decide), if_pos rfl]
  have hv : MS w (mR w (nI p) t d n f r (upd A q 2) k) p r (upd A q 2) := ⟨_, _, _, _, _, rfl⟩
  refine LG_step (first := 15) (m := 2) (j := 0) hp (fun i hi => by omega) (fun _ _ => rfl) (st_num h hp hv (q := q + 1 + 0) (i := 15 + 0) (by omega) (by decide) rfl (nI_add q 1) rfl rfl _) (fun _ => rfl) (fun x0 v0 A0 hx0 ht0 hB0 hC0 => ?_)
  dsimp only
  rw [if_neg i10]
  have hp0 := (tE_b T hp).2.1
  refine LG_step (first := 15) (m := 1) (j := 1) hp0 hB0 hC0 (st_num h hp0 ht0.ms (q := q + 1 + 1) (i := 15 + 1) (by omega) (by decide) rfl (nI_add q 2) rfl rfl _) (fun _ => rfl) (fun x1 v1 A1 hx1 ht1 hB1 hC1 => ?_)
  dsimp only
  rw [if_neg i10]
  have hp1 := (tE_b T hp0).2.1
  rw [show nI q + 2 = nI (q + 2) from nI_add q 2, inB_nI (show q + 2 < 88 by omega) (by decide), if_pos rfl, ix_nI (by omega)]
  refine LG_step (first := 15) (m := 0) (j := 2) hp1 hB1 hC1 (st_nb h hp1 ht1.ms (q := q + 1 + 2) (i := 15 + 2) (by omega) (by decide) rfl rfl hx1 (nI_add q 3) (show v1.1 45 (q + 2) = nI x1 by rw [ht1.row]; exact (hB1 1 (by decide)).trans (by rw [asg_t])) rfl) (fun _ => rfl) (fun x2 v2 A2 hx2 ht2 hB2 hC2 => ?_)
  dsimp only
  rw [if_neg i10]
  exact LG_end ht2 hB2 hC2
theorem nmC_2 {lo hi a : Nat} {o : Option Nat} (h : nmC 0 lo hi 0 o = none) : nmC 2 lo hi (a : Int) o = none := by
  cases o with
  | none => rfl
  | some x =>
    rw [nmC_s] at h ⊢
    split at h
    · cases h
    · rename_i c
      rw [if_neg (fun z => c ⟨z.1, z.2.1, fun y => by omega, fun y => by omega⟩)]
theorem nmC_2s {lo hi a x : Nat} {o : Option Nat} (h : nmC 0 lo hi 0 o = some x) : nmC 2 lo hi (a : Int) o = if x = a then none else some x := by
  cases o with
  | none => cases h
  | some y =>
    rw [nmC_s] at h ⊢
    split at h
    · rename_i c
      injection h with h
      subst h
      by_cases e : y = a
      · rw [if_pos e, if_neg (fun z => z.2.2.2 ⟨rfl, by omega⟩)]
      · rw [if_neg e, if_pos ⟨c.1, c.2.1, fun z => by omega, fun z => by omega⟩]
    · cases h
theorem m_overL {w v : Wd} {T : Nat → Nat} {N p : Nat} {r : Int32} {A : Nat → Int32} {q : Nat} (h : hTm w T N) (hp : p ≤ N) (hq : q + 11 ≤ 88) (hv : MS w v p r A) : LG w r q 2 A (lnR T N 18 2 0 p (-1) (fun _ => 0)) (f_X10_isOverLine (nI q) v) := by
  unfold f_X10_isOverLine
  refine LG_step (first := 18) (m := 1) (j := 0) hp (fun i hi => by omega) (fun _ _ => rfl) (st_num h hp hv (q := q + 1 + 0) (i := 18 + 0) (by omega) (by decide) rfl (nI_add q 1) rfl rfl _) (fun _ => rfl) (fun x0 v0 A0 hx0 ht0 hB0 hC0 => ?_)
  dsimp only
  rw [if_neg i10]
  have hp0 := (tE_b T hp).2.1
  have key := m_isNumber h hp0 ht0.ms (q := q + 2) (lo := 0) (hi := 13) (by omega) (by decide) (by decide)
  have ev : vlO T N (18 + 1) (tE T N p) (x0 : Int) = nmC 2 0 13 (x0 : Int) (nmO T (tB T N (tE T N p)) (tE T N (tE T N p))) := rfl
  rw [show nI q + 2 = nI (q + 2) from nI_add q 2]
  cases hn : nmC 0 0 13 0 (nmO T (tB T N (tE T N p)) (tE T N (tE T N p))) with
  | none =>
    rw [hn] at key
    obtain ⟨v1, e1, f1⟩ := key
    rw [nmC_2 hn] at ev
    rw [show f_X10_isNumber (nI (q + 2)) 0 13 v0 = _ from e1, Option.bind_some]
    dsimp only
    rw [if_pos rfl, lnR_n ev]
    exact ⟨v1, rfl, (fun z => by cases z), fun _ => f1⟩
  | some x =>
    rw [hn] at key
    obtain ⟨v1, e1, f1⟩ := key
    rw [nmC_2s hn] at ev
    rw [show f_X10_isNumber (nI (q + 2)) 0 13 v0 = _ from e1, Option.bind_some]
    dsimp only
    rw [if_neg i10, show nI q + 1 = nI (q + 1) from nI_add q 1, inB_nI (show q + 1 < 88 by omega) (by decide), inB_nI (show q + 2 < 88 by omega) (by decide), if_pos rfl, if_pos rfl, ix_nI (show q + 1 < 2 ^ 31 by omega), ix_nI (show q + 2 < 2 ^ 31 by omega), f1.row, pk_us, pk_un (show q + 1 ≠ q + 2 by omega), show A0 (q + 1) = nI x0 from (hB0 0 (by decide)).trans (by rw [asg_t])]
    have hxb : x ≤ 13 := by
      cases ho : nmO T (tB T N (tE T N p)) (tE T N (tE T N p)) with
      | none => rw [ho] at hn; cases hn
      | some y =>
        rw [ho, nmC_s] at hn
        split at hn
        · rename_i c; injection hn with hn; omega
        · cases hn
    by_cases c : x = x0
    · subst c
      rw [if_pos rfl] at ev
      obtain ⟨v2, e2, f2⟩ := f1.fail
      rw [if_pos rfl, e2, Option.bind_some, lnR_n ev]
      dsimp only
      rw [if_pos rfl]
      exact ⟨v2, rfl, (fun z => by cases z), fun _ => f2⟩
    · rw [if_neg c] at ev
      rw [if_neg (fun z => c ((nI_eq (by omega) (by omega)).mp z).symm), lnR_y ev]
      refine LG_end f1 (fun i hi => ?_) (fun i hi => ?_)
      · by_cases ci : i = 1
        · subst ci; exact pk_us.trans (by rw [asg_t])
        · rw [pk_un (by omega), asg_lt (by omega)]; exact hB0 i (by omega)
      · rw [pk_un (by omega)]; exact hC0 i hi
theorem m_116_3 {w v : Wd} {T : Nat → Nat} {N p : Nat} {r : Int32} {A : Nat → Int32} {q : Nat} (h : hTm w T N) (hp : p ≤ N) (hq : q + 11 ≤ 88) (hv : MS w v p r A) : LG w r q 2 (upd A q 3) (lnR T N 18 2 0 p (-1) (fun _ => 0)) (f_X10_isLine_116 (nI q) 3 (nI q) v) := by
  obtain ⟨t, d, n, f, k, rfl⟩ := hv
  unfold f_X10_isLine_116
  rw [inB_nI (show q < 88 by omega) (by decide), if_pos rfl, if_pos rfl, ix_nI (by omega), mR_s45, mR_45, pk_us, if_neg (show ¬ (3 : Int32) = 0 by decide), if_neg (show ¬ (3 : Int32) = 1 by decide), if_neg (show ¬ (3 : Int32) = 2 by decide), if_pos rfl]
  have hv : MS w (mR w (nI p) t d n f r (upd A q 3) k) p r (upd A q 3) := ⟨_, _, _, _, _, rfl⟩
  exact LG_bo (m_overL h hp hq hv)
theorem m_116_4 {w v : Wd} {T : Nat → Nat} {N p : Nat} {r : Int32} {A : Nat → Int32} {q : Nat} (h : hTm w T N) (hp : p ≤ N) (hq : q + 11 ≤ 88) (hv : MS w v p r A) : LG w r q 5 (upd A q 4) (lnR T N 20 5 0 p (-1) (fun _ => 0)) (f_X10_isLine_116 (nI q) 4 (nI q) v) := by
  obtain ⟨t, d, n, f, k, rfl⟩ := hv
  unfold f_X10_isLine_116
  rw [inB_nI (show q < 88 by omega) (by decide), if_pos rfl, if_pos rfl, ix_nI (by omega), mR_s45, mR_45, pk_us, if_neg (show ¬ (4 : Int32) = 0 by decide), if_neg (show ¬ (4 : Int32) = 1 by decide), if_neg (show ¬ (4 : Int32) = 2 by decide), if_neg (show ¬ (4 : Int32) = 3 by decide), if_pos rfl]
  have hv : MS w (mR w (nI p) t d n f r (upd A q 4) k) p r (upd A q 4) := ⟨_, _, _, _, _, rfl⟩
  refine LG_step (first := 20) (m := 4) (j := 0) hp (fun i hi => by omega) (fun _ _ => rfl) (st_num h hp hv (q := q + 1 + 0) (i := 20 + 0) (by omega) (by decide) rfl (nI_add q 1) rfl rfl _) (fun _ => rfl) (fun x0 v0 A0 hx0 ht0 hB0 hC0 => ?_)
  dsimp only
  rw [if_neg i10]
  have hp0 := (tE_b T hp).2.1
  refine LG_step (first := 20) (m := 3) (j := 1) hp0 hB0 hC0 (st_num h hp0 ht0.ms (q := q + 1 + 1) (i := 20 + 1) (by omega) (by decide) rfl (nI_add q 2) rfl rfl _) (fun _ => rfl) (fun x1 v1 A1 hx1 ht1 hB1 hC1 => ?_)
  dsimp only
  rw [if_neg i10]
  have hp1 := (tE_b T hp0).2.1
  rw [show nI q + 2 = nI (q + 2) from nI_add q 2, inB_nI (show q + 2 < 88 by omega) (by decide), if_pos rfl, ix_nI (by omega)]
  refine LG_step (first := 20) (m := 2) (j := 2) hp1 hB1 hC1 (st_nb h hp1 ht1.ms (q := q + 1 + 2) (i := 20 + 2) (by omega) (by decide) rfl rfl hx1 (nI_add q 3) (show v1.1 45 (q + 2) = nI x1 by rw [ht1.row]; exact (hB1 1 (by decide)).trans (by rw [asg_t])) rfl) (fun _ => rfl) (fun x2 v2 A2 hx2 ht2 hB2 hC2 => ?_)
  dsimp only
  rw [if_neg i10]
  have hp2 := (tE_b T hp1).2.1
  refine LG_step (first := 20) (m := 1) (j := 3) hp2 hB2 hC2 (st_num h hp2 ht2.ms (q := q + 1 + 3) (i := 20 + 3) (by omega) (by decide) rfl (nI_add q 4) rfl rfl _) (fun _ => rfl) (fun x3 v3 A3 hx3 ht3 hB3 hC3 => ?_)
  dsimp only
  rw [if_neg i10]
  have hp3 := (tE_b T hp2).2.1
  rw [show nI q + 4 = nI (q + 4) from nI_add q 4, inB_nI (show q + 4 < 88 by omega) (by decide), if_pos rfl, ix_nI (by omega)]
  refine LG_step (first := 20) (m := 0) (j := 4) hp3 hB3 hC3 (st_nb h hp3 ht3.ms (q := q + 1 + 4) (i := 20 + 4) (by omega) (by decide) rfl rfl hx3 (nI_add q 5) (show v3.1 45 (q + 4) = nI x3 by rw [ht3.row]; exact (hB3 3 (by decide)).trans (by rw [asg_t])) rfl) (fun _ => rfl) (fun x4 v4 A4 hx4 ht4 hB4 hC4 => ?_)
  dsimp only
  rw [if_neg i10]
  exact LG_end ht4 hB4 hC4
theorem m_116_5 {w v : Wd} {T : Nat → Nat} {N p : Nat} {r : Int32} {A : Nat → Int32} {q : Nat} (h : hTm w T N) (hp : p ≤ N) (hq : q + 11 ≤ 88) (hv : MS w v p r A) : LG w r q 1 (upd A q 5) (lnR T N 25 1 0 p (-1) (fun _ => 0)) (f_X10_isLine_116 (nI q) 5 (nI q) v) := by
  obtain ⟨t, d, n, f, k, rfl⟩ := hv
  unfold f_X10_isLine_116
  rw [inB_nI (show q < 88 by omega) (by decide), if_pos rfl, if_pos rfl, ix_nI (by omega), mR_s45, mR_45, pk_us, if_neg (show ¬ (5 : Int32) = 0 by decide), if_neg (show ¬ (5 : Int32) = 1 by decide), if_neg (show ¬ (5 : Int32) = 2 by decide), if_neg (show ¬ (5 : Int32) = 3 by decide), if_neg (show ¬ (5 : Int32) = 4 by decide), if_pos rfl]
  have hv : MS w (mR w (nI p) t d n f r (upd A q 5) k) p r (upd A q 5) := ⟨_, _, _, _, _, rfl⟩
  unfold f_X10_isLine_393
  refine LG_step (first := 25) (m := 0) (j := 0) hp (fun i hi => by omega) (fun _ _ => rfl) (st_num h hp hv (q := q + 1 + 0) (i := 25 + 0) (by omega) (by decide) rfl (nI_add q 1) rfl rfl _) (fun _ => rfl) (fun x0 v0 A0 hx0 ht0 hB0 hC0 => ?_)
  dsimp only
  rw [show bo 1 = true from rfl, if_pos rfl]
  exact LG_end ht0 hB0 hC0
theorem m_116_6 {w v : Wd} {T : Nat → Nat} {N p : Nat} {r : Int32} {A : Nat → Int32} {q : Nat} (h : hTm w T N) (hp : p ≤ N) (hq : q + 11 ≤ 88) (hv : MS w v p r A) : LG w r q 1 (upd A q 6) (lnR T N 26 1 0 p (-1) (fun _ => 0)) (f_X10_isLine_116 (nI q) 6 (nI q) v) := by
  obtain ⟨t, d, n, f, k, rfl⟩ := hv
  unfold f_X10_isLine_116
  rw [inB_nI (show q < 88 by omega) (by decide), if_pos rfl, if_pos rfl, ix_nI (by omega), mR_s45, mR_45, pk_us, if_neg (show ¬ (6 : Int32) = 0 by decide), if_neg (show ¬ (6 : Int32) = 1 by decide), if_neg (show ¬ (6 : Int32) = 2 by decide), if_neg (show ¬ (6 : Int32) = 3 by decide), if_neg (show ¬ (6 : Int32) = 4 by decide), if_neg (show ¬ (6 : Int32) = 5 by decide), if_pos rfl]
  have hv : MS w (mR w (nI p) t d n f r (upd A q 6) k) p r (upd A q 6) := ⟨_, _, _, _, _, rfl⟩
  unfold f_X10_isLine_393
  refine LG_step (first := 26) (m := 0) (j := 0) hp (fun i hi => by omega) (fun _ _ => rfl) (st_num h hp hv (q := q + 1 + 0) (i := 26 + 0) (by omega) (by decide) rfl (nI_add q 1) rfl rfl _) (fun _ => rfl) (fun x0 v0 A0 hx0 ht0 hB0 hC0 => ?_)
  dsimp only
  rw [show bo 1 = true from rfl, if_pos rfl]
  exact LG_end ht0 hB0 hC0
theorem m_116_n {w v : Wd} {p b : Nat} {r : Int32} {A : Nat → Int32} {q : Nat} (hq : q + 11 ≤ 88) (hv : MT w v p b r A) : ∃ v', f_X10_isLine_116 (nI q) (-1) (nI q) v = some (0, v') ∧ MF w v' b r := by
  obtain ⟨d, n, f, k, rfl⟩ := hv
  unfold f_X10_isLine_116
  rw [inB_nI (show q < 88 by omega) (by decide), if_pos rfl, if_pos rfl, ix_nI (by omega), mR_s45, mR_45, pk_us, if_neg (show ¬ (-1 : Int32) = 0 by decide), if_neg (show ¬ (-1 : Int32) = 1 by decide), if_neg (show ¬ (-1 : Int32) = 2 by decide), if_neg (show ¬ (-1 : Int32) = 3 by decide), if_neg (show ¬ (-1 : Int32) = 4 by decide), if_neg (show ¬ (-1 : Int32) = 5 by decide), if_neg (show ¬ (-1 : Int32) = 6 by decide)]
  unfold f_X10_fails
  rw [mR_18, mR_s22, Option.bind_some]
  exact ⟨_, rfl, _, _, _, _, _, _, rfl⟩
theorem m_isLine {w v : Wd} {T : Nat → Nat} {N p : Nat} {r : Int32} {A : Nat → Int32} {q : Nat} (h : hTm w T N) (hp : p ≤ N) (hq : q + 11 ≤ 88) (hv : MS w v p r A) : (lnK T N p < 7 → LG w r q (cnN (lnK T N p)) (upd A q (nI (lnK T N p))) (lnG T N p) (f_X10_isLine (nI q) v)) ∧ (¬ lnK T N p < 7 → ∃ v', f_X10_isLine (nI q) v = some (0, v') ∧ MF w v' (tB T N p) r) := by
  obtain ⟨t, d, n, f, k, rfl⟩ := hv
  obtain ⟨d', n', e1, n1⟩ := m_next h hp (t := t) (d := d) (n := n) (f := f) (r := r) (A := A) (k := k)
  have hpe := (tE_b T hp).2.1
  have hv1 : MT w (mR w (nI (tE T N p)) (nI (tB T N p)) d' n' f r A (tkV T N (tB T N p) (tE T N p))) (tE T N p) (tB T N p) r A := ⟨_, _, _, _, rfl⟩
  unfold f_X10_isLine
  rw [e1, Option.bind_some, mR_2]
  have hno : ∀ j, j < lnK T N p → isW T (tB T N p) (tE T N p) (1 + j) = false := fun j hj => fa_first_no (fun k => isW T (tB T N p) (tE T N p) (1 + k)) 7 j hj
  have hle : lnK T N p ≤ 7 := fa_first_le (fun k => isW T (tB T N p) (tE T N p) (1 + k)) 7
  have hyes : lnK T N p < 7 → isW T (tB T N p) (tE T N p) (1 + lnK T N p) = true := fun z => fa_first_yes (fun k => isW T (tB T N p) (tE T N p) (1 + k)) 7 z
  have w0 : (lg_cmp (tkV T N (tB T N p) (tE T N p)) 40136882 = 0) ↔ isW T (tB T N p) (tE T N p) (1 + 0) = true := by rw [wk_1]; exact tk_word hp (by decide) (by decide)
  have w1 : (lg_cmp (tkV T N (tB T N p) (tE T N p)) 257105 = 0) ↔ isW T (tB T N p) (tE T N p) (1 + 1) = true := by rw [wk_2]; exact tk_word hp (by decide) (by decide)
  have w2 : (lg_cmp (tkV T N (tB T N p) (tE T N p)) 495765 = 0) ↔ isW T (tB T N p) (tE T N p) (1 + 2) = true := by rw [wk_3]; exact tk_word hp (by decide) (by decide)
  have w3 : (lg_cmp (tkV T N (tB T N p) (tE T N p)) 311436 = 0) ↔ isW T (tB T N p) (tE T N p) (1 + 3) = true := by rw [wk_4]; exact tk_word hp (by decide) (by decide)
  have w4 : (lg_cmp (tkV T N (tB T N p) (tE T N p)) 397345 = 0) ↔ isW T (tB T N p) (tE T N p) (1 + 4) = true := by rw [wk_5]; exact tk_word hp (by decide) (by decide)
  have w5 : (lg_cmp (tkV T N (tB T N p) (tE T N p)) 10334396 = 0) ↔ isW T (tB T N p) (tE T N p) (1 + 5) = true := by rw [wk_6]; exact tk_word hp (by decide) (by decide)
  have w6 : (lg_cmp (tkV T N (tB T N p) (tE T N p)) 5146 = 0) ↔ isW T (tB T N p) (tE T N p) (1 + 6) = true := by rw [wk_7]; exact tk_word hp (by decide) (by decide)
  have z0 : 0 < lnK T N p → ¬ lg_cmp (tkV T N (tB T N p) (tE T N p)) 40136882 = 0 := fun hj z => by have := w0.mp z; rw [hno 0 hj] at this; cases this
  have z1 : 1 < lnK T N p → ¬ lg_cmp (tkV T N (tB T N p) (tE T N p)) 257105 = 0 := fun hj z => by have := w1.mp z; rw [hno 1 hj] at this; cases this
  have z2 : 2 < lnK T N p → ¬ lg_cmp (tkV T N (tB T N p) (tE T N p)) 495765 = 0 := fun hj z => by have := w2.mp z; rw [hno 2 hj] at this; cases this
  have z3 : 3 < lnK T N p → ¬ lg_cmp (tkV T N (tB T N p) (tE T N p)) 311436 = 0 := fun hj z => by have := w3.mp z; rw [hno 3 hj] at this; cases this
  have z4 : 4 < lnK T N p → ¬ lg_cmp (tkV T N (tB T N p) (tE T N p)) 397345 = 0 := fun hj z => by have := w4.mp z; rw [hno 4 hj] at this; cases this
  have z5 : 5 < lnK T N p → ¬ lg_cmp (tkV T N (tB T N p) (tE T N p)) 10334396 = 0 := fun hj z => by have := w5.mp z; rw [hno 5 hj] at this; cases this
  have z6 : 6 < lnK T N p → ¬ lg_cmp (tkV T N (tB T N p) (tE T N p)) 5146 = 0 := fun hj z => by have := w6.mp z; rw [hno 6 hj] at this; cases this
  constructor
  · intro hk
    have hy := hyes hk
    rcases (by omega : lnK T N p = 0 ∨ lnK T N p = 1 ∨ lnK T N p = 2 ∨ lnK T N p = 3 ∨ lnK T N p = 4 ∨ lnK T N p = 5 ∨ lnK T N p = 6) with e | e | e | e | e | e | e
    · rw [e] at hy
      rw [if_pos (w0.mpr hy)]
      unfold lnG
      rw [e]
      exact m_116_0 h hpe hq hv1.ms
    · rw [e] at hy
      rw [if_neg (z0 (by omega)), if_pos (w1.mpr hy)]
      unfold lnG
      rw [e]
      exact m_116_1 h hpe hq hv1.ms
    · rw [e] at hy
      rw [if_neg (z0 (by omega)), if_neg (z1 (by omega)), if_pos (w2.mpr hy)]
      unfold lnG
      rw [e]
      exact m_116_2 h hpe hq hv1.ms
    · rw [e] at hy
      rw [if_neg (z0 (by omega)), if_neg (z1 (by omega)), if_neg (z2 (by omega)), if_pos (w3.mpr hy)]
      unfold lnG
      rw [e]
      exact m_116_3 h hpe hq hv1.ms
    · rw [e] at hy
      rw [if_neg (z0 (by omega)), if_neg (z1 (by omega)), if_neg (z2 (by omega)), if_neg (z3 (by omega)), if_pos (w4.mpr hy)]
      unfold lnG
      rw [e]
      exact m_116_4 h hpe hq hv1.ms
    · rw [e] at hy
      rw [if_neg (z0 (by omega)), if_neg (z1 (by omega)), if_neg (z2 (by omega)), if_neg (z3 (by omega)), if_neg (z4 (by omega)), if_pos (w5.mpr hy)]
      unfold lnG
      rw [e]
      exact m_116_5 h hpe hq hv1.ms
    · rw [e] at hy
      rw [if_neg (z0 (by omega)), if_neg (z1 (by omega)), if_neg (z2 (by omega)), if_neg (z3 (by omega)), if_neg (z4 (by omega)), if_neg (z5 (by omega)), if_pos (w6.mpr hy)]
      unfold lnG
      rw [e]
      exact m_116_6 h hpe hq hv1.ms
  · intro hk
    rw [if_neg (z0 (by omega)), if_neg (z1 (by omega)), if_neg (z2 (by omega)), if_neg (z3 (by omega)), if_neg (z4 (by omega)), if_neg (z5 (by omega)), if_neg (z6 (by omega))]
    exact m_116_n hq hv1
