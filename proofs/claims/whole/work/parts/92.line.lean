/-! lines, and the class's reading of them -/
def tbN : List Nat := [0, 0, 7, 0, 0, 999, 0, 0, 999, 3, 0, 1, 0, 1, 30, 0, 1, 20, 0, 1, 500, 0, 0, 40, 4, 0, 1, 0, 0, 60, 0, 8, 13, 0, 0, 999, 0, 0, 999, 0, 1, 999, 0, 1, 999, 0, 0, 13, 0, 0, 2000, 1, 0, 2000, 0, 0, 13, 2, 0, 13, 0, 1, 12, 0, 0, 40, 1, 0, 40, 0, 0, 2000, 1, 0, 2000, 0, 0, 99, 0, 0, 99]
def tbK : List Nat := [0, 10, 15, 18, 20, 25, 26, 27]
theorem tbS_N : ∀ i, i < 81 → tbS.getD i 0 = nI (tbN.getD i 0) ∧ tbN.getD i 0 ≤ 2000 := by decide +kernel
theorem tbF_N : ∀ i, i < 8 → tbF.getD i 0 = nI (tbK.getD i 0) ∧ tbK.getD i 0 ≤ 27 := by decide +kernel
def slF (i : Nat) : Nat := tbN.getD (3 * i) 0
def slA (i : Nat) : Nat := tbN.getD (3 * i + 1) 0
def slB (i : Nat) : Nat := tbN.getD (3 * i + 2) 0
def fsN (k : Nat) : Nat := tbK.getD k 0
def cnN (k : Nat) : Nat := tbK.getD (k + 1) 0 - tbK.getD k 0
theorem cnN_b : ∀ k, k < 7 → fsN k + cnN k ≤ 27 ∧ cnN k ≤ 10 ∧ 1 ≤ cnN k ∧ tbK.getD k 0 ≤ tbK.getD (k + 1) 0 := by decide +kernel
theorem e_at60 {i : Nat} (hi : i < 81) (v : Wd) : f_X9_at 60 (nI i) v = some (nI (tbN.getD i 0), v) := by
  unfold f_X9_at
  rw [show arN 60 = some 81 from rfl]
  dsimp only
  rw [if_neg (nI_pos (by omega)), if_neg (nI_ge hi (by decide)), ix_nI (by omega)]
  rw [show rdC v 60 i = tbS.getD i 0 from rfl, (tbS_N i hi).1]
theorem e_at61 {i : Nat} (hi : i < 8) (v : Wd) : f_X9_at 61 (nI i) v = some (nI (tbK.getD i 0), v) := by
  unfold f_X9_at
  rw [show arN 61 = some 8 from rfl]
  dsimp only
  rw [if_neg (nI_pos (by omega)), if_neg (nI_ge hi (by decide)), ix_nI (by omega)]
  rw [show rdC v 61 i = tbF.getD i 0 from rfl, (tbF_N i hi).1]
/-- a number within, behind what is ahead -/
def nmC (f lo hi : Nat) (ah : Int) : Option Nat → Option Nat
  | none => none
  | some v => if lo ≤ v ∧ v ≤ hi ∧ ¬ (f = 1 ∧ (v : Int) < ah) ∧ ¬ (f = 2 ∧ (v : Int) = ah) then some v else none
theorem nmC_s (f lo hi v : Nat) (ah : Int) : nmC f lo hi ah (some v) = if lo ≤ v ∧ v ≤ hi ∧ ¬ (f = 1 ∧ (v : Int) < ah) ∧ ¬ (f = 2 ∧ (v : Int) = ah) then some v else none := rfl
def vlO (T : Nat → Nat) (N i p : Nat) (ah : Int) : Option Nat :=
  if slF i = 3 then wwO T (tB T N p) (tE T N p) 8 else if slF i = 4 then wwO T (tB T N p) (tE T N p) 10 else nmC (slF i) (slA i) (slB i) ah (nmO T (tB T N p) (tE T N p))
theorem nmO_b {T : Nat → Nat} {N p v : Nat} (hp : p ≤ N) (h : nmO T (tB T N p) (tE T N p) = some v) : v ≤ 9999 := by
  unfold nmO at h
  split at h
  · rename_i c
    injection h with h
    subst h
    have := nvN_b (T := T) (b := tB T N p) (tE T N p - tB T N p) (fun j hj => by
      have := tE_s T hp (j := tB T N p + j) (by omega) (by omega) (by omega)
      rw [this, c.2.2])
    have h4 : 10 ^ (tE T N p - tB T N p) ≤ 10 ^ 4 := Nat.pow_le_pow_right (by decide) c.2.1
    omega
  · cases h
theorem vlO_b {T : Nat → Nat} {N i p v : Nat} {ah : Int} (hp : p ≤ N) (h : vlO T N i p ah = some v) : v ≤ 9999 := by
  have W : ∀ k, wwO T (tB T N p) (tE T N p) k = some v → v ≤ 9999 := by
    intro k e
    unfold wwO at e
    split at e
    · injection e with e; omega
    · split at e
      · injection e with e; omega
      · cases e
  unfold vlO at h
  split at h
  · exact W 8 h
  · split at h
    · exact W 10 h
    · cases hn : nmO T (tB T N p) (tE T N p) with
      | none => rw [hn] at h; cases h
      | some x =>
        rw [hn, nmC_s] at h
        split at h
        · injection h with h; subst h; exact nmO_b hp hn
        · cases h
theorem e_valueIn {w : Wd} {T : Nat → Nat} {N : Nat} (h : hTx w T N) {L p i : Nat} {A : Nat → Int32} {ah : Int} (hp : p ≤ N) (hi : i < 27) (ha : -1 ≤ ah ∧ ah ≤ 9999) : f_X4_valueIn (nI i) (tI ah) (cR w L (tB T N p) (tE T N p) A) = some (oI (vlO T N i p ah), cR w L (tB T N p) (tE T N p) A) := by
  have h2 := tE_b T hp
  have t0 := (tbS_N (3 * i) (by omega)).2
  unfold f_X4_valueIn vlO
  rw [show nI i * 3 = nI (3 * i) by rw [show nI i * 3 = nI (i * 3) from pk_mul i 3, Nat.mul_comm], e_at60 (by omega), Option.bind_some]
  dsimp only
  rw [show tbN.getD (3 * i) 0 = slF i from rfl] at t0 ⊢
  by_cases c3 : slF i = 3
  · rw [if_pos c3, if_pos (by rw [c3]; rfl), show f_X4_whichWord 78 79 _ = _ from e_which (k := 8) h (by decide) h2.1 h2.2.1, Option.bind_some]
  · rw [if_neg c3, if_neg (show ¬ nI (slF i) = 3 from fun z => c3 ((nI_eq (b := 3) (by omega) (by decide)).mp z))]
    by_cases c4 : slF i = 4
    · rw [if_pos c4, if_pos (by rw [c4]; rfl), show f_X4_whichWord 80 81 _ = _ from e_which (k := 10) h (by decide) h2.1 h2.2.1, Option.bind_some]
    · rw [if_neg c4, if_neg (show ¬ nI (slF i) = 4 from fun z => c4 ((nI_eq (b := 4) (by omega) (by decide)).mp z)), e_number h hp, Option.bind_some]
      dsimp only
      have t1 := (tbS_N (3 * i + 1) (by omega)).2
      have t2 := (tbS_N (3 * i + 2) (by omega)).2
      rw [show nI (3 * i) + 1 = nI (3 * i + 1) from p1 _, show nI (3 * i) + 2 = nI (3 * i + 2) from nI_add _ 2, e_at60 (by omega), Option.bind_some]
      dsimp only
      rw [e_at60 (by omega), Option.bind_some]
      dsimp only
      rw [show tbN.getD (3 * i + 1) 0 = slA i from rfl, show tbN.getD (3 * i + 2) 0 = slB i from rfl, e_within, Option.bind_some]
      rw [show tbN.getD (3 * i + 1) 0 = slA i from rfl] at t1
      rw [show tbN.getD (3 * i + 2) 0 = slB i from rfl] at t2
      dsimp only
      cases hn : nmO T (tB T N p) (tE T N p) with
      | none =>
        have : wi (oI none) (nI (slA i)) (nI (slB i)) = false := by
          unfold wi oI
          rw [decide_eq_false (by rw [fa_le, nI_toInt (by omega), show (-1 : Int32).toInt = -1 from rfl]; omega), Bool.false_and]
        rw [this, if_pos bz]; rfl
      | some v =>
        have hv := nmO_b hp hn
        rw [show oI (some v) = tI (v : Int) from (tI_nI v).symm]
        have ew : wi (tI (v : Int)) (nI (slA i)) (nI (slB i)) = (decide (slA i ≤ v) && decide (v ≤ slB i)) := by
          unfold wi
          rw [← tI_nI, ← tI_nI]
          congr 1
          · rw [decide_eq_decide, tI_le (by unfold smI; omega) (by unfold smI; omega)]; omega
          · rw [decide_eq_decide, tI_le (by unfold smI; omega) (by unfold smI; omega)]; omega
        rw [ew]
        rw [nmC_s]
        unfold f_X4_valueIn_87
        by_cases r1 : slA i ≤ v ∧ v ≤ slB i
        · rw [decide_eq_true r1.1, decide_eq_true r1.2, Bool.and_true, if_neg bnz]
          have e1 : (tI (v : Int) < tI ah) = ((v : Int) < ah) := tI_lt (by unfold smI; omega) (by unfold smI; omega)
          have e2 : (tI (v : Int) = tI ah) = ((v : Int) = ah) := tI_eq (by unfold smI; omega) (by unfold smI; omega)
          simp only [e1, e2]
          by_cases f1 : slF i = 1
          · rw [if_pos (by rw [f1]; rfl)]
            by_cases l : (v : Int) < ah
            · rw [if_pos l, if_neg (fun z => z.2.2.1 ⟨f1, l⟩)]; rfl
            · rw [if_neg l, if_neg (show ¬ nI (slF i) = 2 by rw [f1]; decide), if_pos ⟨r1.1, r1.2, fun z => l z.2, fun z => by omega⟩, tI_nI]; rfl
          · rw [if_neg (show ¬ nI (slF i) = 1 from fun z => f1 ((nI_eq (b := 1) (by omega) (by decide)).mp z))]
            by_cases f2 : slF i = 2
            · rw [if_pos (by rw [f2]; rfl)]
              by_cases l : (v : Int) = ah
              · rw [if_pos l, if_neg (fun z => z.2.2.2 ⟨f2, l⟩)]; rfl
              · rw [if_neg l, if_pos ⟨r1.1, r1.2, fun z => f1 z.1, fun z => l z.2⟩, tI_nI]; rfl
            · rw [if_neg (show ¬ nI (slF i) = 2 from fun z => f2 ((nI_eq (b := 2) (by omega) (by decide)).mp z)), if_pos ⟨r1.1, r1.2, fun z => f1 z.1, fun z => f2 z.1⟩, tI_nI]; rfl
        · have : (decide (slA i ≤ v) && decide (v ≤ slB i)) = false := by
            cases e : (decide (slA i ≤ v) && decide (v ≤ slB i)) with
            | false => rfl
            | true => simp only [Bool.and_eq_true, decide_eq_true_eq] at e; exact absurd e r1
          rw [this, if_pos bz, if_neg (fun z => r1 ⟨z.1, z.2.1⟩)]; rfl
/-- the slots of a line -/
def lnR (T : Nat → Nat) (N first : Nat) : Nat → Nat → Nat → Int → (Nat → Nat) → Bool × Nat × (Nat → Nat)
  | 0, _, p, _, V => (true, p, V)
  | m + 1, j, p, ah, V => match vlO T N (first + j) p ah with
    | none => (false, tB T N p, V)
    | some v => lnR T N first m (j + 1) (tE T N p) v (asg V j v)
theorem lnR_n {T : Nat → Nat} {N first m j p : Nat} {ah : Int} {V : Nat → Nat} (h : vlO T N (first + j) p ah = none) : lnR T N first (m + 1) j p ah V = (false, tB T N p, V) := by rw [lnR, h]
theorem lnR_y {T : Nat → Nat} {N first m j p v : Nat} {ah : Int} {V : Nat → Nat} (h : vlO T N (first + j) p ah = some v) : lnR T N first (m + 1) j p ah V = lnR T N first m (j + 1) (tE T N p) v (asg V j v) := by rw [lnR, h]
theorem lnR_b {T : Nat → Nat} {N first : Nat} : ∀ m j p ah V, p ≤ N → (lnR T N first m j p ah V).2.1 ≤ N
  | 0, _, _, _, _, h => h
  | m + 1, j, p, ah, V, h => by
    cases hv : vlO T N (first + j) p ah with
    | none => rw [lnR_n hv]; exact (tB_b T h).2
    | some v => rw [lnR_y hv]; exact lnR_b m (j + 1) _ _ _ (tE_b T h).2.1
theorem lnR_V {T : Nat → Nat} {N first : Nat} : ∀ m j p ah V i, i < j → (lnR T N first m j p ah V).2.2 i = V i
  | 0, _, _, _, _, _, _ => rfl
  | m + 1, j, p, ah, V, i, h => by
    cases hv : vlO T N (first + j) p ah with
    | none => rw [lnR_n hv]
    | some v => rw [lnR_y hv, lnR_V m (j + 1) _ _ _ i (by omega), asg_lt h]
theorem oI_ne {o : Option Nat} (h : ∀ v, o = some v → v ≤ 9999) : (oI o = -1) ↔ o = none := by
  cases o with
  | none => exact ⟨fun _ => rfl, fun _ => rfl⟩
  | some v =>
    have := h v rfl
    constructor
    · intro z
      rw [show oI (some v) = nI v from rfl, fa_eq, nI_toInt (by omega), show (-1 : Int32).toInt = -1 from rfl] at z
      omega
    · intro z; cases z
theorem cR_put {w : Wd} {L b e : Nat} {A : Nat → Int32} {i : Nat} (hi : i < 88) (x : Int32) : f_X9_put 4 (nI i) x (cR w L b e A) = some (cR w L b e (upd A i x)) := by
  rw [e_put (k := 4) (by decide) lay_4, ptv_in hi (by decide), cR_4]
  unfold cR
  rw [w2_wb]
theorem e_line_55 {w : Wd} {T : Nat → Nat} {N : Nat} (h : hTx w T N) {L l first cnt : Nat} (hl : l < 8) (hf : first + cnt ≤ 27) (hc : cnt ≤ 10) : ∀ (n m j p b : Nat) (ah : Int) (V : Nat → Nat) (A : Nat → Int32), j + m = cnt → m < n → p ≤ N → (-1 ≤ ah ∧ ah ≤ 9999) → (∀ i, i < j → A (11 * l + 1 + i) = nI (V i)) → ∃ b' e' A', f_X4_readLine_55 n (nI l) (nI first) (nI cnt) (tI ah) (nI j) (cR w L b p A) = some (b2i (lnR T N first m j p ah V).1, cR w L b' e' A') ∧ (∀ i, (i < 11 * l + 1 ∨ 11 * l + 11 ≤ i) → A' i = A i) ∧ ((lnR T N first m j p ah V).1 = true → e' = (lnR T N first m j p ah V).2.1 ∧ ∀ i, i < cnt → A' (11 * l + 1 + i) = nI ((lnR T N first m j p ah V).2.2 i)) ∧ ((lnR T N first m j p ah V).1 = false → b' = (lnR T N first m j p ah V).2.1) := by
  intro n
  induction n with
  | zero => intro m j p b ah V A _ h; omega
  | succ n ih =>
    intro m j p b ah V A hjm hn hp ha hA
    rw [f_X4_readLine_55]
    cases m with
    | zero =>
      rw [if_pos (nI_le (by omega) (by omega))]
      exact ⟨b, p, A, rfl, fun i _ => rfl, fun _ => ⟨rfl, fun i hi => hA i (by omega)⟩, fun z => by cases z⟩
    | succ m =>
      have h2 := tE_b T hp
      rw [if_neg (nI_ge (by omega) (by omega)), e_take_tok h hp, Option.bind_some, nI_add, e_valueIn h hp (by omega) ha, Option.bind_some]
      dsimp only
      cases hv : vlO T N (first + j) p ah with
      | none =>
        rw [if_pos (show oI none = -1 from rfl), lnR_n hv]
        exact ⟨tB T N p, tE T N p, A, rfl, fun i _ => rfl, (fun z => by cases z), fun _ => rfl⟩
      | some v =>
        have hvb := vlO_b hp hv
        rw [if_neg (fun z => by have := (oI_ne (o := some v) (fun x hx => by injection hx with hx; omega)).mp z; cases this), lnR_y hv]
        rw [show nI l * 11 + 1 + nI j = nI (11 * l + 1 + j) by rw [show nI l * 11 + 1 = nI (l * 11 + 1) from nl l 11 1, nI_add, Nat.mul_comm], cR_put (by omega), Option.bind_some, p1]
        rw [show oI (some v) = tI (v : Int) from (tI_nI v).symm]
        obtain ⟨b', e', A', e1, q1, q2, q3⟩ := ih m (j + 1) (tE T N p) (tB T N p) v (asg V j v) (upd A (11 * l + 1 + j) (tI (v : Int))) (by omega) (by omega) h2.2.1 (by omega) (fun i hi => by
          unfold upd
          by_cases e : i = j
          · subst e; rw [if_pos rfl, asg_t, tI_nI]
          · rw [if_neg (by omega), asg_lt (by omega)]; exact hA i (by omega))
        refine ⟨b', e', A', e1, fun i hi => ?_, q2, q3⟩
        rw [q1 i hi]
        unfold upd
        rw [if_neg (by omega)]
/-- a line -/
def lnK (T : Nat → Nat) (N p : Nat) : Nat := kdN T (tB T N p) (tE T N p)
def lnG (T : Nat → Nat) (N p : Nat) : Bool × Nat × (Nat → Nat) := lnR T N (fsN (lnK T N p)) (cnN (lnK T N p)) 0 (tE T N p) (-1) (fun _ => 0)
theorem lnG_b {T : Nat → Nat} {N p : Nat} (hp : p ≤ N) : (lnG T N p).2.1 ≤ N := by
  unfold lnG
  exact lnR_b (T := T) (N := N) (first := fsN (lnK T N p)) (cnN (lnK T N p)) 0 (tE T N p) (-1) (fun _ => 0) (tE_b T hp).2.1
theorem e_readLine {w : Wd} {T : Nat → Nat} {N : Nat} (h : hTx w T N) {L l p b : Nat} {A : Nat → Int32} (hl : l < 8) (hp : p ≤ N) : ∃ b' e' A', f_X4_readLine (nI l) (cR w L b p A) = some (b2i (decide (lnK T N p < 7) && (lnG T N p).1), cR w L b' e' A') ∧ (∀ i, (i < 11 * l ∨ 11 * l + 11 ≤ i) → A' i = A i) ∧ (lnK T N p < 7 → (lnG T N p).1 = true → e' = (lnG T N p).2.1 ∧ A' (11 * l) = nI (lnK T N p) ∧ ∀ i, i < cnN (lnK T N p) → A' (11 * l + 1 + i) = nI ((lnG T N p).2.2 i)) ∧ (lnK T N p < 7 → (lnG T N p).1 = false → b' = (lnG T N p).2.1) ∧ (¬ lnK T N p < 7 → b' = tB T N p) := by
  have h2 := tE_b T hp
  unfold f_X4_readLine
  rw [e_take_tok h hp, Option.bind_some, e_kind h h2.1 h2.2.1, Option.bind_some]
  dsimp only
  rw [show kdN T (tB T N p) (tE T N p) = lnK T N p from rfl]
  unfold nI'
  by_cases hk : lnK T N p < 7
  · obtain ⟨k1, k2, k3, k4⟩ := cnN_b _ hk
    rw [if_pos hk, if_neg (fun z => by rw [fa_eq, nI_toInt (by omega), show (-1 : Int32).toInt = -1 from rfl] at z; omega), show nI l * 11 = nI (11 * l) by rw [show nI l * 11 = nI (l * 11) from pk_mul l 11, Nat.mul_comm], cR_put (by omega), Option.bind_some, e_at61 (by omega), Option.bind_some]
    dsimp only
    rw [p1, e_at61 (by omega), Option.bind_some, pk_sub k4]
    dsimp only
    obtain ⟨b', e', A', e1, q1, q2, q3⟩ := e_line_55 h (L := L) (first := fsN (lnK T N p)) (cnt := cnN (lnK T N p)) hl k1 k2 fu (cnN (lnK T N p)) 0 (tE T N p) (tB T N p) (-1) (fun _ => 0) (upd A (11 * l) (nI (lnK T N p))) (by omega) (Nat.lt_of_le_of_lt k2 (by decide)) h2.2.1 (by omega) (fun i hi => by omega)
    unfold lnG
    refine ⟨b', e', A', ?_, fun i hi => ?_, fun _ hok => ?_, fun _ hno => q3 hno, fun z => absurd hk z⟩
    · rw [decide_eq_true hk, Bool.true_and, show (0 : Int32) = nI 0 from rfl, show (-1 : Int32) = tI (-1) from rfl]
      exact e1
    · rw [q1 i (by omega)]
      unfold upd
      rw [if_neg (by omega)]
    · obtain ⟨z1, z2⟩ := q2 hok
      refine ⟨z1, ?_, z2⟩
      rw [q1 (11 * l) (by omega)]
      exact if_pos rfl
  · rw [if_neg hk, if_pos rfl, decide_eq_false hk, Bool.false_and]
    exact ⟨tB T N p, tE T N p, A, rfl, fun i _ => rfl, fun z => absurd z hk, fun z => absurd z hk, fun _ => rfl⟩
/-- all lines -/
def rdF (T : Nat → Nat) (N : Nat) : Nat → Nat → Nat → (Nat → Nat) → (Nat → Nat → Nat) → Option Nat × Nat × (Nat → Nat) × (Nat → Nat → Nat)
  | 0, l, _, K, W => (some 0, l, K, W)
  | m + 1, l, p, K, W =>
    if lnK T N p < 7 then
      (if (lnG T N p).1 then
        (if tB T N (lnG T N p).2.1 = N then (none, l + 1, asg K l (lnK T N p), fun i => if i = l then (lnG T N p).2.2 else W i)
         else if isW T (tB T N (lnG T N p).2.1) (tE T N (lnG T N p).2.1) 0 then
           (if m = 0 then (some (tB T N (lnG T N p).2.1), l + 1, K, W) else rdF T N m (l + 1) (tE T N (lnG T N p).2.1) (asg K l (lnK T N p)) (fun i => if i = l then (lnG T N p).2.2 else W i))
         else (some (tB T N (lnG T N p).2.1), l + 1, K, W))
       else (some (lnG T N p).2.1, l, K, W))
    else (some (tB T N p), l, K, W)
/-- rows that bear the first n lines -/
def rwOK (A : Nat → Int32) (n : Nat) (K : Nat → Nat) (W : Nat → Nat → Nat) : Prop := ∀ l, l < n → K l < 7 ∧ A (11 * l) = nI (K l) ∧ ∀ i, i < cnN (K l) → A (11 * l + 1 + i) = nI (W l i)
theorem rwOK_s {A A' : Nat → Int32} {l k : Nat} {K : Nat → Nat} {W : Nat → Nat → Nat} {V : Nat → Nat} (h : rwOK A l K W) (hk : k < 7) (h1 : ∀ i, i < 11 * l → A' i = A i) (h2 : A' (11 * l) = nI k) (h3 : ∀ i, i < cnN k → A' (11 * l + 1 + i) = nI (V i)) : rwOK A' (l + 1) (asg K l k) (fun i => if i = l then V else W i) := by
  intro r hr
  by_cases e : r = l
  · subst e
    rw [asg_t]
    refine ⟨hk, h2, fun i hi => ?_⟩
    dsimp only
    rw [if_pos rfl]
    exact h3 i hi
  · have hr' : r < l := by omega
    rw [asg_lt hr']
    obtain ⟨a, b, c⟩ := h r hr'
    have := (cnN_b _ a).2.1
    refine ⟨a, by rw [h1 _ (by omega)]; exact b, fun i hi => ?_⟩
    dsimp only
    rw [if_neg e, h1 _ (by omega)]
    exact c i hi
theorem rdF_c {T : Nat → Nat} {N m l p : Nat} {K : Nat → Nat} {W : Nat → Nat → Nat} {R : Option Nat × Nat × (Nat → Nat) × (Nat → Nat → Nat)} (h : rdF T N (m + 1) l p K W = R) :
    (¬ lnK T N p < 7 ∧ R = (some (tB T N p), l, K, W)) ∨ (lnK T N p < 7 ∧ (((lnG T N p).1 = false ∧ R = (some (lnG T N p).2.1, l, K, W)) ∨ ((lnG T N p).1 = true ∧
      ((tB T N (lnG T N p).2.1 = N ∧ R = (none, l + 1, asg K l (lnK T N p), fun i => if i = l then (lnG T N p).2.2 else W i)) ∨ (¬ tB T N (lnG T N p).2.1 = N ∧
        ((isW T (tB T N (lnG T N p).2.1) (tE T N (lnG T N p).2.1) 0 = false ∧ R = (some (tB T N (lnG T N p).2.1), l + 1, K, W)) ∨ (isW T (tB T N (lnG T N p).2.1) (tE T N (lnG T N p).2.1) 0 = true ∧
          ((m = 0 ∧ R = (some (tB T N (lnG T N p).2.1), l + 1, K, W)) ∨ (¬ m = 0 ∧ rdF T N m (l + 1) (tE T N (lnG T N p).2.1) (asg K l (lnK T N p)) (fun i => if i = l then (lnG T N p).2.2 else W i) = R))))))))) := by
  rw [rdF] at h
  generalize lnG T N p = G at h ⊢
  generalize lnK T N p = k at h ⊢
  by_cases hk : k < 7
  · rw [if_pos hk] at h
    refine Or.inr ⟨hk, ?_⟩
    cases hg : G.1 with
    | false => rw [hg, if_neg (show ¬ false = true by decide)] at h; exact Or.inl ⟨rfl, h.symm⟩
    | true =>
      rw [hg, if_pos rfl] at h
      refine Or.inr ⟨rfl, ?_⟩
      by_cases c1 : tB T N G.2.1 = N
      · rw [if_pos c1] at h; exact Or.inl ⟨c1, h.symm⟩
      · rw [if_neg c1] at h
        refine Or.inr ⟨c1, ?_⟩
        cases hw : isW T (tB T N G.2.1) (tE T N G.2.1) 0 with
        | false => rw [hw, if_neg (show ¬ false = true by decide)] at h; exact Or.inl ⟨rfl, h.symm⟩
        | true =>
          rw [hw, if_pos rfl] at h
          refine Or.inr ⟨rfl, ?_⟩
          by_cases c3 : m = 0
          · rw [if_pos c3] at h; exact Or.inl ⟨c3, h.symm⟩
          · rw [if_neg c3] at h; exact Or.inr ⟨c3, h⟩
  · rw [if_neg hk] at h
    exact Or.inl ⟨hk, h.symm⟩
theorem e_ff_12 {w : Wd} {T : Nat → Nat} {N : Nat} (h : hTx w T N) : ∀ (n m l p b : Nat) (K : Nat → Nat) (W : Nat → Nat → Nat) (A : Nat → Int32) (R : Option Nat × Nat × (Nat → Nat) × (Nat → Nat → Nat)), rdF T N (m + 1) l p K W = R → l + (m + 1) = 8 → m + 2 < n → p ≤ N → rwOK A l K W → ∃ L' b' e' A', f_X4_firstFault_12 n (nI l) (cR w l b p A) = some (oI R.1, cR w L' b' e' A') ∧ (R.1 = none → L' = R.2.1 ∧ rwOK A' R.2.1 R.2.2.1 R.2.2.2) := by
  have hN := h.1
  intro n
  induction n with
  | zero => intro m l p b K W A R _ _ h; omega
  | succ n ih =>
    intro m l p b K W A R hR hlm hn hp hA
    have hl8 : l < 8 := by omega
    have hpN := lnG_b (T := T) hp
    obtain ⟨b', e', A', e1, q1, q2, q3, q4⟩ := e_readLine h (L := l) (b := b) (A := A) hl8 hp
    have hC := rdF_c hR
    obtain ⟨G, hG⟩ : ∃ G, lnG T N p = G := ⟨_, rfl⟩
    obtain ⟨k, hK⟩ : ∃ k, lnK T N p = k := ⟨_, rfl⟩
    rw [hG, hK] at e1 q2 q3 hC
    rw [hK] at q4
    rw [hG] at hpN
    rw [f_X4_firstFault_12, if_neg (n8 hl8), e1, Option.bind_some]
    dsimp only
    rcases hC with ⟨hk, rfl⟩ | ⟨hk, ⟨hg, rfl⟩ | ⟨hg, hC⟩⟩
    · rw [decide_eq_false hk, Bool.false_and, if_pos bz, cR_33, q4 hk]
      exact ⟨l, _, e', A', rfl, fun z => by cases z⟩
    · rw [decide_eq_true hk, Bool.true_and, hg, if_pos bz, cR_33, q3 hk hg]
      exact ⟨l, _, e', A', rfl, fun z => by cases z⟩
    · obtain ⟨r1, r2, r3⟩ := q2 hk hg
      have hb2 := tB_b T hpN
      have he2 := tE_b T hpN
      rw [decide_eq_true hk, Bool.true_and, hg, if_neg bnz, p1, cR_s2, r1, e_take_tok h hpN, Option.bind_some, cR_33, cR_N h]
      have hok := rwOK_s hA hk (fun i hi => q1 i (Or.inl hi)) r2 r3
      rcases hC with ⟨c1, rfl⟩ | ⟨c1, hC⟩
      · rw [if_pos (by rw [c1])]
        exact ⟨l + 1, _, _, A', rfl, fun _ => ⟨rfl, hok⟩⟩
      · rw [if_neg (fun z => c1 ((nI_eq (by omega) (by omega)).mp z)), show f_X4_tokenIs 70 _ = _ from e_tis (k := 0) h (by decide) he2.1 he2.2.1, Option.bind_some]
        dsimp only
        rcases hC with ⟨hw, rfl⟩ | ⟨hw, ⟨c3, rfl⟩ | ⟨c3, hC⟩⟩
        · rw [hw, if_pos bz, cR_33]
          exact ⟨l + 1, _, _, A', rfl, fun z => by cases z⟩
        · rw [hw, if_neg bnz, show l + 1 = 8 by omega]
          obtain ⟨n, rfl⟩ : ∃ j, n = j + 1 := ⟨n - 1, by omega⟩
          rw [f_X4_firstFault_12, if_pos (by decide), cR_33]
          exact ⟨8, _, _, A', rfl, fun z => by cases z⟩
        · rw [hw, if_neg bnz]
          obtain ⟨m, rfl⟩ : ∃ j, m = j + 1 := ⟨m - 1, by omega⟩
          exact ih m (l + 1) _ _ _ _ A' R hC (by omega) (by omega) he2.2.1 hok
theorem nI_any (x : Int32) : ∃ n, x = nI n := by
  obtain ⟨n, -, e⟩ := wb_of32 x
  exact ⟨n, e⟩
theorem cR_sim (w : Wd) (L b e : Nat) (A : Nat → Int32) : sim w (cR w L b e A) := by
  refine ((sim.rf w).wA _ (fun j e => ?_)).wA _ (fun j e => by cases e)
  have : ¬ 2 ≤ j := fun z => by rw [show sc 3 j = decide (2 ≤ j) from rfl, decide_eq_true z] at e; cases e
  unfold c3
  rw [if_neg (by omega), if_neg (by omega), if_neg (by omega)]
def rd0 (T : Nat → Nat) (N : Nat) : Option Nat × Nat × (Nat → Nat) × (Nat → Nat → Nat) := rdF T N 8 0 0 (fun _ => 0) (fun _ _ => 0)
theorem rd0_d (T : Nat → Nat) (N : Nat) : rdF T N (7 + 1) 0 0 (fun _ => 0) (fun _ _ => 0) = rd0 T N := rfl
theorem e_firstFault {w : Wd} {T : Nat → Nat} {N : Nat} (h : hTx w T N) : ∃ L' b' e' A', f_X4_firstFault w = some (oI (rd0 T N).1, cR w L' b' e' A') ∧ ((rd0 T N).1 = none → L' = (rd0 T N).2.1 ∧ rwOK A' (rd0 T N).2.1 (rd0 T N).2.2.1 (rd0 T N).2.2.2) := by
  obtain ⟨b0, hb⟩ := nI_any (w.1 3 3)
  unfold f_X4_firstFault
  have e0 : wS (wS w 3 2 0) 3 4 0 = cR w 0 b0 0 (w.1 4) := by
    rw [wS_d, wS_d, wA_s, wA_wA]
    unfold cR w2
    have : wA (wA w 3 (c3 w 0 b0 0)) 4 (w.1 4) = wA w 3 (c3 w 0 b0 0) := by
      have := wA_self (wA w 3 (c3 w 0 b0 0)) 4
      rw [wA_n _ _ (by decide)] at this
      exact this
    rw [this]
    congr 1
    funext j
    unfold upd c3
    by_cases h4 : j = 4
    · subst h4; rw [if_pos rfl, if_neg (by decide), if_neg (by decide), if_pos rfl]; rfl
    · rw [if_neg h4]
      by_cases h2 : j = 2
      · rw [if_pos h2, if_pos h2]; rfl
      · rw [if_neg h2, if_neg h2]
        by_cases h3 : j = 3
        · subst h3; rw [if_pos rfl, hb]
        · rw [if_neg h3, if_neg h4]
  rw [e0, show (0 : Int32) = nI 0 from rfl]
  exact e_ff_12 h fu 7 0 0 b0 (fun _ => 0) (fun _ _ => 0) (w.1 4) (rd0 T N) (rd0_d T N) (by decide) (by decide) (Nat.zero_le _) (fun l hl => by omega)
