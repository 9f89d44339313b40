/-! lines as they are told: bounds; what both do with a line -/
theorem sl_w : ∀ i, i < 27 → (slF i = 3 ∨ slF i = 4) → slA i = 0 ∧ slB i = 1 := by decide +kernel
theorem vlO_r {T : Nat → Nat} {N i p v : Nat} {ah : Int} (hi : i < 27) (h : vlO T N i p ah = some v) : slA i ≤ v ∧ v ≤ slB i := by
  have W : ∀ k, wwO T (tB T N p) (tE T N p) k = some v → v ≤ 1 := by
    intro k e
    unfold wwO at e
    split at e
    · injection e with e; omega
    · split at e
      · injection e with e; omega
      · cases e
  unfold vlO at h
  split at h
  · rename_i c
    have := sl_w i hi (Or.inl c)
    have := W 8 h
    omega
  · split at h
    · rename_i c
      have := sl_w i hi (Or.inr c)
      have := W 10 h
      omega
    · cases hn : nmO T (tB T N p) (tE T N p) with
      | none => rw [hn] at h; cases h
      | some x =>
        rw [hn, nmC_s] at h
        split at h
        · rename_i c; injection h with h; subst h; exact ⟨c.1, c.2.1⟩
        · cases h
theorem lnR_ok {T : Nat → Nat} {N first : Nat} : ∀ m j p ah V, (lnR T N first m j p ah V).1 = true → first + (j + m) ≤ 27 → ∀ i, j ≤ i → i < j + m → slA (first + i) ≤ (lnR T N first m j p ah V).2.2 i ∧ (lnR T N first m j p ah V).2.2 i ≤ slB (first + i)
  | 0, j, _, _, _, _, _, i, h1, h2 => by omega
  | m + 1, j, p, ah, V, h, hf, i, h1, h2 => by
    cases hv : vlO T N (first + j) p ah with
    | none => rw [lnR_n hv] at h; cases h
    | some v =>
      rw [lnR_y hv] at h ⊢
      by_cases c : i = j
      · subst c
        rw [lnR_V _ _ _ _ _ _ (Nat.lt_succ_self i), asg_t]
        exact vlO_r (by omega) hv
      · exact lnR_ok m (j + 1) _ _ _ h (by omega) i (by omega) (by omega)
/-- a line's numbers are in their bounds -/
def vOK (k : Nat) (V : Nat → Nat) : Prop := k < 7 ∧ (∀ i, i < cnN k → slA (fsN k + i) ≤ V i ∧ V i ≤ slB (fsN k + i)) ∧ (k = 3 → V 0 ≠ V 1)
theorem lnR_un {T : Nat → Nat} {N p : Nat} (h : (lnR T N 18 2 0 p (-1) (fun _ => 0)).1 = true) : (lnR T N 18 2 0 p (-1) (fun _ => 0)).2.2 0 ≠ (lnR T N 18 2 0 p (-1) (fun _ => 0)).2.2 1 := by
  cases h0 : vlO T N (18 + 0) p (-1) with
  | none => rw [lnR_n h0] at h; cases h
  | some x =>
    rw [lnR_y h0] at h ⊢
    cases h1 : vlO T N (18 + (0 + 1)) (tE T N p) (x : Int) with
    | none => rw [lnR_n h1] at h; cases h
    | some y =>
      rw [lnR_y h1]
      show x ≠ y
      have e : nmC 2 0 13 (x : Int) (nmO T (tB T N (tE T N p)) (tE T N (tE T N p))) = some y := h1
      cases hn : nmO T (tB T N (tE T N p)) (tE T N (tE T N p)) with
      | none => rw [hn] at e; cases e
      | some z =>
        rw [hn, nmC_s] at e
        split at e
        · rename_i c
          injection e with e
          subst e
          intro q
          exact c.2.2.2 ⟨rfl, by omega⟩
        · cases e
theorem lnG_ok {T : Nat → Nat} {N p : Nat} (hk : lnK T N p < 7) (h : (lnG T N p).1 = true) : vOK (lnK T N p) (lnG T N p).2.2 := by
  unfold lnG at h ⊢
  generalize lnK T N p = k at hk h ⊢
  have hc := cnN_b k hk
  refine ⟨hk, fun i hi => lnR_ok (cnN k) 0 (tE T N p) (-1) (fun _ => 0) h (by omega) i (Nat.zero_le _) (by omega), fun e => ?_⟩
  subst e
  rw [show fsN 3 = 18 from rfl, show cnN 3 = 2 from rfl] at h ⊢
  exact lnR_un h
theorem rdF_ok {T : Nat → Nat} {N : Nat} : ∀ (m l p : Nat) (K : Nat → Nat) (W : Nat → Nat → Nat) (R : Option Nat × Nat × (Nat → Nat) × (Nat → Nat → Nat)), rdF T N m l p K W = R → (∀ i, i < l → vOK (K i) (W i)) → R.1 = none → R.2.1 ≤ l + m ∧ ∀ i, i < R.2.1 → vOK (R.2.2.1 i) (R.2.2.2 i)
  | 0, l, p, K, W, R, hR, _, h => by subst hR; cases h
  | m + 1, l, p, K, W, R, hR, h0, h => by
    have hs : lnK T N p < 7 → (lnG T N p).1 = true → ∀ i, i < l + 1 → vOK (asg K l (lnK T N p) i) (if i = l then (lnG T N p).2.2 else W i) := by
      intro hk hg i hi
      by_cases c : i = l
      · subst c; rw [asg_t, if_pos rfl]; exact lnG_ok hk hg
      · rw [asg_lt (by omega), if_neg c]; exact h0 i (by omega)
    have hC := rdF_c hR
    obtain ⟨G, hG⟩ : ∃ G, lnG T N p = G := ⟨_, rfl⟩
    obtain ⟨k, hK⟩ : ∃ k, lnK T N p = k := ⟨_, rfl⟩
    rw [hG, hK] at hC hs
    rcases hC with ⟨hk, rfl⟩ | ⟨hk, ⟨hg, rfl⟩ | ⟨hg, ⟨c1, rfl⟩ | ⟨c1, ⟨hw, rfl⟩ | ⟨hw, ⟨c3, rfl⟩ | ⟨c3, hC⟩⟩⟩⟩⟩
    · cases h
    · cases h
    · exact ⟨by show l + 1 ≤ l + (m + 1); omega, hs hk hg⟩
    · cases h
    · cases h
    · have := rdF_ok m (l + 1) _ _ _ R hC (hs hk hg) h
      exact ⟨by omega, this.2⟩
theorem rdF_b {T : Nat → Nat} {N : Nat} : ∀ (m l p : Nat) (K : Nat → Nat) (W : Nat → Nat → Nat) (R : Option Nat × Nat × (Nat → Nat) × (Nat → Nat → Nat)) (b : Nat), rdF T N m l p K W = R → p ≤ N → R.1 = some b → b ≤ N
  | 0, l, p, K, W, R, b, hR, hp, h => by
    subst hR
    have h : some 0 = some b := h
    injection h with h; omega
  | m + 1, l, p, K, W, R, b, hR, hp, h => by
    have hgb := lnG_b (T := T) hp
    have hC := rdF_c hR
    obtain ⟨G, hG⟩ : ∃ G, lnG T N p = G := ⟨_, rfl⟩
    obtain ⟨k, hK⟩ : ∃ k, lnK T N p = k := ⟨_, rfl⟩
    rw [hG, hK] at hC
    rw [hG] at hgb
    rcases hC with ⟨hk, rfl⟩ | ⟨hk, ⟨hg, rfl⟩ | ⟨hg, ⟨c1, rfl⟩ | ⟨c1, ⟨hw, rfl⟩ | ⟨hw, ⟨c3, rfl⟩ | ⟨c3, hC⟩⟩⟩⟩⟩
    · have h : some (tB T N p) = some b := h
      injection h with h; subst h; exact (tB_b T hp).2
    · have h : some G.2.1 = some b := h
      injection h with h; subst h; exact hgb
    · cases h
    · have h : some (tB T N G.2.1) = some b := h
      injection h with h; subst h; exact (tB_b T hgb).2
    · have h : some (tB T N G.2.1) = some b := h
      injection h with h; subst h; exact (tB_b T hgb).2
    · exact rdF_b m (l + 1) _ _ _ R b hC (tE_b T hgb).2.1 h
/-- what the class does with a line -/
def xF (f : Nat → Int32) (V : Nat → Nat) : Nat → Int32 := upd (upd (upd (upd f (4 * V 0) (nI (V 1))) (4 * V 0 + 1) (nI (V 2))) (4 * V 0 + 2 + V 3) (nI (V 6))) (4 * V 0 + 2 + (1 - V 3)) (nI (V 4) * nI (V 5))
def tV (V : Nat → Nat) : Nat → Int32 := fun i => nI (V (i + 1))
def gCl (k : Nat) (V : Nat → Nat) (u : Wd) : Wd :=
  if k = 0 then wA (wA (wA u 6 (fb_put (u.1 6) (tV V) (9 * V 0) 9)) 7 (xF (u.1 7) V)) 5 (upd (u.1 5) 0 (u.1 5 0 ||| jshl 1 (nI (V 0))))
  else if k = 1 then wA (wA u 7 (fb_put (u.1 7) (tV V) (4 * V 0) 4)) 5 (upd (u.1 5) 0 (u.1 5 0 ||| jshl 1 (nI (V 0))))
  else if k = 2 then wA (wA u 8 (upd (u.1 8) (V 0) (nI (V 1)))) 9 (upd (u.1 9) (V 0) (nI (V 2)))
  else if k = 3 then (if bt (u.1 10 (V 0)) (V 1) = true then u else if 24 ≤ u.1 5 6 then u else wA (wA u 10 (upd (u.1 10) (V 0) (u.1 10 (V 0) ||| jshl 1 (nI (V 1))))) 5 (upd (u.1 5) 6 (u.1 5 6 + 1)))
  else if k = 4 then wA (wA u 11 (fb_put (u.1 11) (tV V) (4 * V 0) 4)) 5 (upd (u.1 5) 7 (u.1 5 7 ||| jshl 1 (nI (V 0))))
  else if k = 5 then wA u 5 (upd (u.1 5) 9 (nI (V 0)))
  else wA u 5 (upd (u.1 5) 10 (nI (V 0)))
theorem e_num4 {u : Wd} {l i : Nat} (hl : l < 8) (hi : i < 10) {x : Int32} (e : u.1 4 (11 * l + 1 + i) = x) : f_X4_number (nI l) (nI i) u = some (x, u) := by
  unfold f_X4_number
  rw [show nI l * 11 + 1 + nI i = nI (11 * l + 1 + i) by rw [show nI l * 11 + 1 = nI (l * 11 + 1) from nl l 11 1, nI_add, Nat.mul_comm], e_at (k := 4) (by decide) lay_4, Option.bind_some, atv_in (by omega) (by decide), e]
theorem e_kind4 {u : Wd} {l : Nat} (hl : l < 8) {x : Int32} (e : u.1 4 (11 * l) = x) : f_X4_kindOf (nI l) u = some (x, u) := by
  unfold f_X4_kindOf
  rw [show nI l * 11 = nI (11 * l) by rw [show nI l * 11 = nI (l * 11) from pk_mul l 11, Nat.mul_comm], e_at (k := 4) (by decide) lay_4, Option.bind_some, atv_in (by omega) (by decide), e]
theorem e_tb_end {s : Wd} {b : Nat} {V : Nat → Nat} {li : Int32} (hb : b < 8) (h0 : V 0 = b) (h3 : V 3 ≤ 1) (hs : ∀ k, k < 9 → s.1 6 (9 * b + k) = nI (V (k + 1))) (n : Nat) : f_X0_tellBundle_3 (n + 1) li (nI b) 9 s = some (wA (wA s 7 (xF (s.1 7) V)) 5 (upd (s.1 5) 0 (s.1 5 0 ||| jshl 1 (nI b)))) := by
  have pt : ∀ k, k < 9 → f_X0_part (nI b) (nI k) s = some (nI (V (k + 1)), s) := fun k hk => by rw [e_part hb hk, hs k hk]
  have p7 : ∀ F k, k < 9 → f_X0_part (nI b) (nI k) (wA s 7 F) = some (nI (V (k + 1)), wA s 7 F) := fun F k hk => by rw [e_part hb hk, wA_n _ _ (by decide), hs k hk]
  have t2 : f_X0_part (nI b) 2 s = some (nI (V 3), s) := pt 2 (by decide)
  have t0 : f_X0_part (nI b) 0 s = some (nI (V 1), s) := pt 0 (by decide)
  have t1 : ∀ F, f_X0_part (nI b) 1 (wA s 7 F) = some (nI (V 2), wA s 7 F) := fun F => p7 F 1 (by decide)
  have t5 : ∀ F, f_X0_part (nI b) 5 (wA s 7 F) = some (nI (V 6), wA s 7 F) := fun F => p7 F 5 (by decide)
  have t3 : ∀ F, f_X0_part (nI b) 3 (wA s 7 F) = some (nI (V 4), wA s 7 F) := fun F => p7 F 3 (by decide)
  have t4 : ∀ F, f_X0_part (nI b) 4 (wA s 7 F) = some (nI (V 5), wA s 7 F) := fun F => p7 F 4 (by decide)
  have a0 : nI b * 4 = nI (4 * b) := by rw [show nI b * 4 = nI (b * 4) from pk_mul b 4, Nat.mul_comm]
  have a1 : nI (4 * b) + 1 = nI (4 * b + 1) := p1 _
  have a2 : nI (4 * b) + 2 = nI (4 * b + 2) := nI_add _ 2
  have a3 : nI (4 * b + 2) + nI (V 3) = nI (4 * b + 2 + V 3) := nI_add _ _
  have a4 : nI (4 * b + 2) + (1 - nI (V 3)) = nI (4 * b + 2 + (1 - V 3)) := by rw [show (1 : Int32) - nI (V 3) = nI (1 - V 3) from pk_sub (a := 1) h3, nI_add]
  rw [f_X0_tellBundle_3, if_pos (show (9 : Int32) ≤ 9 by decide), t2, Option.bind_some]
  dsimp only
  rw [t0, Option.bind_some]
  dsimp only
  rw [a0, e_put (k := 7) (by decide) lay_7, Option.bind_some, ptv_in (by omega) (by decide), t1, Option.bind_some]
  dsimp only
  rw [a1, e_put (k := 7) (by decide) lay_7, Option.bind_some, ptv_in (by omega) (by decide), wA_s, wA_wA, t5, Option.bind_some]
  dsimp only
  rw [a2, a3, e_put (k := 7) (by decide) lay_7, Option.bind_some, ptv_in (by omega) (by decide), wA_s, wA_wA, t3, Option.bind_some]
  dsimp only
  rw [t4, Option.bind_some]
  dsimp only
  rw [a4, e_put (k := 7) (by decide) lay_7, Option.bind_some, ptv_in (by omega) (by decide), wA_s, wA_wA]
  subst h0
  rfl
theorem fb_nI (f : Nat → Int32) (V : Nat → Nat) (a i : Nat) : upd (fb_put f (tV V) a i) (a + i) (nI (V (i + 1))) = fb_put f (tV V) a (i + 1) := fb_put_succ f (tV V) a i
theorem e_tb_3 {u : Wd} {l b : Nat} {V : Nat → Nat} (hl : l < 8) (hb : b < 8) (h0 : V 0 = b) (h3 : V 3 ≤ 1) (hV : ∀ i, i < 10 → u.1 4 (11 * l + 1 + i) = nI (V i)) : ∀ (n i : Nat), i ≤ 9 → 9 - i < n → f_X0_tellBundle_3 n (nI l) (nI b) (nI i) (wA u 6 (fb_put (u.1 6) (tV V) (9 * b) i)) = some (gCl 0 V u) := by
  intro n
  induction n with
  | zero => intro i _ h; omega
  | succ n ih =>
    intro i hi hn
    by_cases c : i = 9
    · subst c
      rw [show nI 9 = 9 from rfl, e_tb_end (V := V) hb h0 h3 (fun k hk => by rw [wA_s, fb_put_in (by omega) (by omega), show 9 * b + k - 9 * b = k by omega]; rfl)]
      subst h0
      rfl
    · rw [f_X0_tellBundle_3, if_neg (n9 (by omega)), p1, e_num4 (i := i + 1) (x := nI (V (i + 1))) hl (by omega) (by rw [wA_n _ _ (by decide)]; exact hV (i + 1) (by omega)), Option.bind_some]
      dsimp only
      rw [show nI b * 9 + nI i = nI (9 * b + i) by rw [show nI b * 9 + nI i = nI (b * 9 + i) from nl b 9 i, Nat.mul_comm], e_put (k := 6) (by decide) lay_6, Option.bind_some, ptv_in (by omega) (by decide), wA_s, wA_wA, fb_nI]
      exact ih (i + 1) (by omega) (by omega)
theorem e_tm_3 {u : Wd} {l b : Nat} {V : Nat → Nat} (hl : l < 8) (hb : b < 14) (h0 : V 0 = b) (hV : ∀ i, i < 5 → u.1 4 (11 * l + 1 + i) = nI (V i)) : ∀ (n i : Nat), i ≤ 4 → 4 - i < n → f_X0_tellMark_3 n (nI l) (nI b) (nI i) (wA u 7 (fb_put (u.1 7) (tV V) (4 * b) i)) = some (gCl 1 V u) := by
  intro n
  induction n with
  | zero => intro i _ h; omega
  | succ n ih =>
    intro i hi hn
    by_cases c : i = 4
    · subst c
      rw [f_X0_tellMark_3, if_pos (by decide)]
      subst h0
      rfl
    · rw [f_X0_tellMark_3, if_neg (n4 (by omega)), p1, e_num4 (i := i + 1) (x := nI (V (i + 1))) hl (by omega) (by rw [wA_n _ _ (by decide)]; exact hV (i + 1) (by omega)), Option.bind_some]
      dsimp only
      rw [show nI b * 4 + nI i = nI (4 * b + i) by rw [show nI b * 4 + nI i = nI (b * 4 + i) from nl b 4 i, Nat.mul_comm], e_put (k := 7) (by decide) lay_7, Option.bind_some, ptv_in (by omega) (by decide), wA_s, wA_wA, fb_nI]
      exact ih (i + 1) (by omega) (by omega)
theorem e_tt_3 {u : Wd} {l b : Nat} {V : Nat → Nat} (hl : l < 8) (hb : b < 13) (h0 : V 0 = b) (hV : ∀ i, i < 5 → u.1 4 (11 * l + 1 + i) = nI (V i)) : ∀ (n i : Nat), i ≤ 4 → 4 - i < n → f_X0_tellTeam_3 n (nI l) (nI b) (nI i) (wA u 11 (fb_put (u.1 11) (tV V) (4 * b) i)) = some (gCl 4 V u) := by
  intro n
  induction n with
  | zero => intro i _ h; omega
  | succ n ih =>
    intro i hi hn
    by_cases c : i = 4
    · subst c
      rw [f_X0_tellTeam_3, if_pos (by decide)]
      subst h0
      rfl
    · rw [f_X0_tellTeam_3, if_neg (n4 (by omega)), p1, e_num4 (i := i + 1) (x := nI (V (i + 1))) hl (by omega) (by rw [wA_n _ _ (by decide)]; exact hV (i + 1) (by omega)), Option.bind_some]
      dsimp only
      rw [show nI b * 4 + nI i = nI (4 * b + i) by rw [show nI b * 4 + nI i = nI (b * 4 + i) from nl b 4 i, Nat.mul_comm], e_put (k := 11) (by decide) lay_11, Option.bind_some, ptv_in (by omega) (by decide), wA_s, wA_wA, fb_nI]
      exact ih (i + 1) (by omega) (by omega)
theorem wA_p0 (u : Wd) (k a : Nat) (V : Nat → Nat) : wA u k (fb_put (u.1 k) (tV V) a 0) = u := by rw [fb_put_0, wA_self]
theorem e_doLine {u : Wd} {l k : Nat} {V : Nat → Nat} (hl : l < 8) (hv : vOK k V) (hk : u.1 4 (11 * l) = nI k) (hV : ∀ i, i < cnN k → u.1 4 (11 * l + 1 + i) = nI (V i)) : f_X0_doLine (nI l) u = some (gCl k V u) := by
  obtain ⟨hk7, hb, h3⟩ := hv
  have hc := cnN_b k hk7
  unfold f_X0_doLine
  rw [show f_X4_number (nI l) 0 u = _ from e_num4 (i := 0) hl (by decide) (hV 0 (by omega)), Option.bind_some]
  dsimp only
  rw [e_kind4 hl hk, Option.bind_some]
  dsimp only
  rcases (by omega : k = 0 ∨ k = 1 ∨ k = 2 ∨ k = 3 ∨ k = 4 ∨ k = 5 ∨ k = 6) with e | e | e | e | e | e | e
  · subst e
    have b0 : 0 ≤ V 0 ∧ V 0 ≤ 7 := hb 0 (by decide)
    have b3 : 0 ≤ V 3 ∧ V 3 ≤ 1 := hb 3 (by decide)
    have key := e_tb_3 (u := u) (V := V) hl (show V 0 < 8 by omega) rfl b3.2 (fun i hi => hV i hi) fu 0 (by decide) (by decide)
    rw [wA_p0] at key
    rw [if_pos (show nI 0 = 0 from rfl), show f_X0_tellBundle (nI l) (nI (V 0)) u = _ from key]; rfl
  · subst e
    have b0 : 8 ≤ V 0 ∧ V 0 ≤ 13 := hb 0 (by decide)
    have key := e_tm_3 (u := u) (V := V) hl (show V 0 < 14 by omega) rfl (fun i hi => hV i hi) fu 0 (by decide) (by decide)
    rw [wA_p0] at key
    rw [if_neg (show ¬ nI 1 = 0 by decide), if_pos (show nI 1 = 1 from rfl), show f_X0_tellMark (nI l) (nI (V 0)) u = _ from key]; rfl
  · subst e
    have b0 : 0 ≤ V 0 ∧ V 0 ≤ 13 := hb 0 (by decide)
    rw [if_neg (show ¬ nI 2 = 0 by decide), if_neg (show ¬ nI 2 = 1 by decide), if_pos (show nI 2 = 2 from rfl), show f_X4_number (nI l) 1 u = _ from e_num4 (i := 1) hl (by decide) (hV 1 (by decide)), Option.bind_some]
    dsimp only
    rw [e_put (k := 8) (by decide) lay_8, Option.bind_some, ptv_in (by omega) (by decide), show f_X4_number (nI l) 2 (wA u 8 (upd (u.1 8) (V 0) (nI (V 1)))) = _ from e_num4 (i := 2) (x := nI (V 2)) hl (by decide) (by rw [wA_n _ _ (by decide)]; exact hV 2 (by decide)), Option.bind_some]
    dsimp only
    rw [e_put (k := 9) (by decide) lay_9, Option.bind_some, ptv_in (by omega) (by decide)]
    rfl
  · subst e
    have b0 : 0 ≤ V 0 ∧ V 0 ≤ 13 := hb 0 (by decide)
    have b1 : 0 ≤ V 1 ∧ V 1 ≤ 13 := hb 1 (by decide)
    rw [if_neg (show ¬ nI 3 = 0 by decide), if_neg (show ¬ nI 3 = 1 by decide), if_neg (show ¬ nI 3 = 2 by decide), if_pos (show nI 3 = 3 from rfl), show f_X4_number (nI l) 1 u = _ from e_num4 (i := 1) hl (by decide) (hV 1 (by decide)), Option.bind_some]
    dsimp only
    unfold f_X0_tellPair
    rw [e_at (k := 10) (by decide) lay_10, Option.bind_some, atv_in (by omega) (by decide)]
    dsimp only
    rw [e_has _ (by omega), Option.bind_some]
    dsimp only
    show _ = some (if bt (u.1 10 (V 0)) (V 1) = true then u else if 24 ≤ u.1 5 6 then u else wA (wA u 10 (upd (u.1 10) (V 0) (u.1 10 (V 0) ||| jshl 1 (nI (V 1))))) 5 (upd (u.1 5) 6 (u.1 5 6 + 1)))
    cases hbt : bt (u.1 10 (V 0)) (V 1) with
    | true => rw [if_neg bnz, if_pos rfl]; rfl
    | false =>
      rw [if_pos bz, if_neg (show ¬ false = true by decide)]
      by_cases c : 24 ≤ u.1 5 6
      · rw [if_pos c, if_pos c]; rfl
      · rw [if_neg c, if_neg c, e_put (k := 10) (by decide) lay_10, Option.bind_some, ptv_in (by omega) (by decide)]
        rfl
  · subst e
    have b0 : 1 ≤ V 0 ∧ V 0 ≤ 12 := hb 0 (by decide)
    have key := e_tt_3 (u := u) (V := V) hl (show V 0 < 13 by omega) rfl (fun i hi => hV i hi) fu 0 (by decide) (by decide)
    rw [wA_p0] at key
    rw [if_neg (show ¬ nI 4 = 0 by decide), if_neg (show ¬ nI 4 = 1 by decide), if_neg (show ¬ nI 4 = 2 by decide), if_neg (show ¬ nI 4 = 3 by decide), if_pos (show nI 4 = 4 from rfl), show f_X0_tellTeam (nI l) (nI (V 0)) u = _ from key]; rfl
  · subst e
    rw [if_neg (show ¬ nI 5 = 0 by decide), if_neg (show ¬ nI 5 = 1 by decide), if_neg (show ¬ nI 5 = 2 by decide), if_neg (show ¬ nI 5 = 3 by decide), if_neg (show ¬ nI 5 = 4 by decide), if_pos (show nI 5 = 5 from rfl)]; rfl
  · subst e
    rw [if_neg (show ¬ nI 6 = 0 by decide), if_neg (show ¬ nI 6 = 1 by decide), if_neg (show ¬ nI 6 = 2 by decide), if_neg (show ¬ nI 6 = 3 by decide), if_neg (show ¬ nI 6 = 4 by decide), if_neg (show ¬ nI 6 = 5 by decide)]; rfl
/-- what the reference does with it -/
def tV3 (V : Nat → Nat) : Nat → Int32 := fun i => nI (V (i + 3))
def gM (k : Nat) (V : Nat → Nat) (v : Wd) : Wd :=
  if k = 0 then wA (wA (wA (wA (wA (wA v 33 (upd (v.1 33) 0 (v.1 33 0 ||| jshl 1 (nI (V 0))))) 34 (fb_put (v.1 34) (tV3 V) (7 * V 0) 7)) 35 (upd (v.1 35) (V 0) (nI (V 1)))) 36 (upd (v.1 36) (V 0) (nI (V 2)))) 37 (upd (v.1 37) (V 0) (if V 3 = 0 then nI (V 6) else nI (V 4) * nI (V 5)))) 38 (upd (v.1 38) (V 0) (if V 3 = 0 then nI (V 4) * nI (V 5) else nI (V 6)))
  else if k = 1 then wA (wA (wA (wA (wA v 33 (upd (v.1 33) 0 (v.1 33 0 ||| jshl 1 (nI (V 0))))) 35 (upd (v.1 35) (V 0) (nI (V 1)))) 36 (upd (v.1 36) (V 0) (nI (V 2)))) 37 (upd (v.1 37) (V 0) (nI (V 3)))) 38 (upd (v.1 38) (V 0) (nI (V 4)))
  else if k = 2 then wA (wA v 39 (upd (v.1 39) (V 0) (nI (V 1)))) 40 (upd (v.1 40) (V 0) (nI (V 2)))
  else if k = 3 then (if bt (v.1 41 (V 0)) (V 1) = true then v else if 24 ≤ v.1 33 8 then v else wA (wA v 41 (upd (v.1 41) (V 0) (v.1 41 (V 0) ||| jshl 1 (nI (V 1))))) 33 (upd (v.1 33) 8 (v.1 33 8 + 1)))
  else if k = 4 then wA (wA v 33 (upd (v.1 33) 11 (v.1 33 11 ||| jshl 1 (nI (V 0))))) 43 (fb_put (v.1 43) (tV V) (4 * V 0) 4)
  else if k = 5 then wA v 33 (upd (v.1 33) 13 (nI (V 0)))
  else wA v 33 (upd (v.1 33) 14 (nI (V 0)))
theorem m_place {v : Wd} {b : Nat} (hb : b < 14) (p1 p2 p3 p4 : Int32) : f_X10_place (nI b) p1 p2 p3 p4 v = some (wA (wA (wA (wA v 35 (upd (v.1 35) b p1)) 36 (upd (v.1 36) b p2)) 37 (upd (v.1 37) b p3)) 38 (upd (v.1 38) b p4)) := by
  unfold f_X10_place
  rw [inB_nI hb (by decide), if_pos rfl, if_pos rfl, if_pos rfl, if_pos rfl, ix_nI (by omega)]
  rfl
theorem m_db_end {s : Wd} {b q : Nat} {V : Nat → Nat} (hb : b < 8) (hq : q + 11 ≤ 88) (h3 : V 3 ≤ 1) (hs : ∀ k, k < 7 → s.1 34 (7 * b + k) = nI (V (k + 3))) (r2 : s.1 45 (q + 2) = nI (V 1)) (r3 : s.1 45 (q + 3) = nI (V 2)) (n : Nat) : f_X10_doBundle_23 (n + 1) (nI q) (nI b) 7 s = some (wA (wA (wA (wA s 35 (upd (s.1 35) b (nI (V 1)))) 36 (upd (s.1 36) b (nI (V 2)))) 37 (upd (s.1 37) b (if V 3 = 0 then nI (V 6) else nI (V 4) * nI (V 5)))) 38 (upd (s.1 38) b (if V 3 = 0 then nI (V 4) * nI (V 5) else nI (V 6)))) := by
  have of : ∀ k, k < 7 → f_X10_of (nI b) (nI k) s = some (nI (V (k + 3)), s) := fun k hk => by rw [m_of hb hk, hs k hk]
  have o0 : f_X10_of (nI b) 0 s = some (nI (V 3), s) := of 0 (by decide)
  have o1 : f_X10_of (nI b) 1 s = some (nI (V 4), s) := of 1 (by decide)
  have o2 : f_X10_of (nI b) 2 s = some (nI (V 5), s) := of 2 (by decide)
  have o3 : f_X10_of (nI b) 3 s = some (nI (V 6), s) := of 3 (by decide)
  rw [f_X10_doBundle_23, if_pos (show (7 : Int32) ≤ 7 by decide), o1, Option.bind_some]
  dsimp only
  rw [o2, Option.bind_some]
  dsimp only
  rw [show nI q + 2 = nI (q + 2) from nI_add q 2, show nI q + 3 = nI (q + 3) from nI_add q 3, inB_nI (show q + 2 < 88 by omega) (by decide), inB_nI (show q + 3 < 88 by omega) (by decide), if_pos rfl, if_pos rfl, ix_nI (show q + 2 < 2 ^ 31 by omega), ix_nI (show q + 3 < 2 ^ 31 by omega), r2, r3, o0, Option.bind_some]
  dsimp only
  by_cases c : V 3 = 0
  · have c' : nI (V 3) = 0 := by rw [c]; rfl
    rw [if_pos c', if_pos c, if_pos c, o3, Option.bind_some]
    dsimp only
    unfold f_X10_doBundle_107
    rw [o0, Option.bind_some]
    dsimp only
    rw [if_pos c']
    unfold f_X10_doBundle_126
    rw [m_place (by omega)]; rfl
  · have c' : ¬ nI (V 3) = 0 := fun z => c ((nI_eq (b := 0) (by omega) (by decide)).mp z)
    rw [if_neg c', if_neg c, if_neg c]
    unfold f_X10_doBundle_107
    rw [o0, Option.bind_some]
    dsimp only
    rw [if_neg c', o3, Option.bind_some]
    dsimp only
    unfold f_X10_doBundle_126
    rw [m_place (by omega)]; rfl
theorem fb_nI3 (f : Nat → Int32) (V : Nat → Nat) (a i : Nat) : upd (fb_put f (tV3 V) a i) (a + i) (nI (V (i + 3))) = fb_put f (tV3 V) a (i + 1) := fb_put_succ f (tV3 V) a i
theorem m_db_23 {v : Wd} {q b : Nat} {V : Nat → Nat} (hq : q + 11 ≤ 88) (hb : b < 8) (h3 : V 3 ≤ 1) (hV : ∀ i, i < 10 → v.1 45 (q + 1 + i) = nI (V i)) : ∀ (n i : Nat), i ≤ 7 → 7 - i < n → f_X10_doBundle_23 n (nI q) (nI b) (nI i) (wA v 34 (fb_put (v.1 34) (tV3 V) (7 * b) i)) = some (wA (wA (wA (wA (wA v 34 (fb_put (v.1 34) (tV3 V) (7 * b) 7)) 35 (upd (v.1 35) b (nI (V 1)))) 36 (upd (v.1 36) b (nI (V 2)))) 37 (upd (v.1 37) b (if V 3 = 0 then nI (V 6) else nI (V 4) * nI (V 5)))) 38 (upd (v.1 38) b (if V 3 = 0 then nI (V 4) * nI (V 5) else nI (V 6)))) := by
  intro n
  induction n with
  | zero => intro i _ h; omega
  | succ n ih =>
    intro i hi hn
    by_cases c : i = 7
    · subst c
      rw [show nI 7 = 7 from rfl, m_db_end (V := V) hb hq h3 (fun k hk => by rw [wA_s, fb_put_in (by omega) (by omega), show 7 * b + k - 7 * b = k by omega]; rfl) (by rw [wA_n _ _ (by decide)]; exact hV 1 (by decide)) (by rw [wA_n _ _ (by decide)]; exact hV 2 (by decide))]
      rfl
    · rw [f_X10_doBundle_23, if_neg (n7 (by omega)), show nI q + 4 = nI (q + 4) from nI_add q 4, nI_add, show (7 : Int32) * nI b + nI i = nI (7 * b + i) from nl 7 b i, inB_nI (show q + 4 + i < 88 by omega) (by decide), inB_nI (show 7 * b + i < 56 by omega) (by decide), if_pos rfl, if_pos rfl, ix_nI (show q + 4 + i < 2 ^ 31 by omega), ix_nI (show 7 * b + i < 2 ^ 31 by omega), wS_d, wA_s, wA_wA, wA_n (k := 34) (a := 45) _ _ (by decide), show v.1 45 (q + 4 + i) = nI (V (i + 3)) by rw [show q + 4 + i = q + 1 + (i + 3) by omega]; exact hV (i + 3) (by omega), fb_nI3, p1]
      exact ih (i + 1) (by omega) (by omega)
theorem m_dt_207 {v : Wd} {q b : Nat} {V : Nat → Nat} (hq : q + 11 ≤ 88) (hb : b < 13) (hV : ∀ i, i < 5 → v.1 45 (q + 1 + i) = nI (V i)) : ∀ (n i : Nat), i ≤ 4 → 4 - i < n → f_X10_doLine_207 n (nI q) (nI b) (nI i) (wA v 43 (fb_put (v.1 43) (tV V) (4 * b) i)) = some (wA v 43 (fb_put (v.1 43) (tV V) (4 * b) 4)) := by
  intro n
  induction n with
  | zero => intro i _ h; omega
  | succ n ih =>
    intro i hi hn
    by_cases c : i = 4
    · subst c
      rw [f_X10_doLine_207, if_pos (by decide)]
    · rw [f_X10_doLine_207, if_neg (n4 (by omega)), show nI q + 2 = nI (q + 2) from nI_add q 2, nI_add, show (4 : Int32) * nI b + nI i = nI (4 * b + i) from nl 4 b i, inB_nI (show q + 2 + i < 88 by omega) (by decide), inB_nI (show 4 * b + i < 52 by omega) (by decide), if_pos rfl, if_pos rfl, ix_nI (show q + 2 + i < 2 ^ 31 by omega), ix_nI (show 4 * b + i < 2 ^ 31 by omega), wS_d, wA_s, wA_wA, wA_n (k := 43) (a := 45) _ _ (by decide), show v.1 45 (q + 2 + i) = nI (V (i + 1)) by rw [show q + 2 + i = q + 1 + (i + 1) by omega]; exact hV (i + 1) (by omega), fb_nI, p1]
      exact ih (i + 1) (by omega) (by omega)
theorem m_doLine {v : Wd} {q k : Nat} {V : Nat → Nat} (hq : q + 11 ≤ 88) (hv : vOK k V) (hk : v.1 45 q = nI k) (hV : ∀ i, i < cnN k → v.1 45 (q + 1 + i) = nI (V i)) : f_X10_doLine (nI q) v = some (gM k V v) := by
  obtain ⟨hk7, hb, h3⟩ := hv
  have hc := cnN_b k hk7
  have a0 : v.1 45 (q + 1) = nI (V 0) := hV 0 (by omega)
  unfold f_X10_doLine
  rw [show nI q + 1 = nI (q + 1) from nI_add q 1, show nI q + 2 = nI (q + 2) from nI_add q 2, inB_nI (show q + 1 < 88 by omega) (by decide), inB_nI (show q + 2 < 88 by omega) (by decide), inB_nI (show q < 88 by omega) (by decide), if_pos rfl, if_pos rfl, if_pos rfl, ix_nI (show q < 2 ^ 31 by omega), ix_nI (show q + 1 < 2 ^ 31 by omega), ix_nI (show q + 2 < 2 ^ 31 by omega), hk, a0]
  rcases (by omega : k = 0 ∨ k = 1 ∨ k = 2 ∨ k = 3 ∨ k = 4 ∨ k = 5 ∨ k = 6) with e | e | e | e | e | e | e
  · subst e
    have b0 : 0 ≤ V 0 ∧ V 0 ≤ 7 := hb 0 (by decide)
    have b3 : 0 ≤ V 3 ∧ V 3 ≤ 1 := hb 3 (by decide)
    rw [if_pos (show nI 0 = 0 from rfl)]
    unfold f_X10_doBundle
    rw [show nI q + 1 = nI (q + 1) from nI_add q 1, inB_nI (show q + 1 < 88 by omega) (by decide), if_pos rfl, ix_nI (show q + 1 < 2 ^ 31 by omega), a0]
    have key := m_db_23 (v := wA v 33 (upd (v.1 33) 0 (v.1 33 0 ||| jshl 1 (nI (V 0))))) (V := V) hq (show V 0 < 8 by omega) b3.2 (fun i hi => by rw [wA_n _ _ (by decide)]; exact hV i hi) fu 0 (by decide) (by decide)
    rw [fb_put_0, wA_self] at key
    rw [show f_X10_doBundle_23 fu (nI q) (nI (V 0)) 0 (wS v 33 0 (v.1 33 0 ||| jshl 1 (nI (V 0)))) = _ from key]
    rfl
  · subst e
    have b0 : 8 ≤ V 0 ∧ V 0 ≤ 13 := hb 0 (by decide)
    have a1 : v.1 45 (q + 2) = nI (V 1) := hV 1 (by decide)
    have a2 : v.1 45 (q + 3) = nI (V 2) := hV 2 (by decide)
    have a3 : v.1 45 (q + 4) = nI (V 3) := hV 3 (by decide)
    have a4 : v.1 45 (q + 5) = nI (V 4) := hV 4 (by decide)
    rw [if_neg (show ¬ nI 1 = 0 by decide), if_pos (show nI 1 = 1 from rfl), show nI q + 3 = nI (q + 3) from nI_add q 3, show nI q + 4 = nI (q + 4) from nI_add q 4, show nI q + 5 = nI (q + 5) from nI_add q 5, inB_nI (show q + 3 < 88 by omega) (by decide), inB_nI (show q + 4 < 88 by omega) (by decide), inB_nI (show q + 5 < 88 by omega) (by decide), if_pos rfl, if_pos rfl, if_pos rfl, ix_nI (show q + 3 < 2 ^ 31 by omega), ix_nI (show q + 4 < 2 ^ 31 by omega), ix_nI (show q + 5 < 2 ^ 31 by omega), wS_d, wA_n (k := 33) (a := 45) _ _ (by decide), a1, a2, a3, a4, m_place (by omega), Option.bind_some]
    rfl
  · subst e
    have b0 : 0 ≤ V 0 ∧ V 0 ≤ 13 := hb 0 (by decide)
    have a1 : v.1 45 (q + 2) = nI (V 1) := hV 1 (by decide)
    have a2 : v.1 45 (q + 3) = nI (V 2) := hV 2 (by decide)
    rw [if_neg (show ¬ nI 2 = 0 by decide), if_neg (show ¬ nI 2 = 1 by decide), if_pos (show nI 2 = 2 from rfl), inB_nI (show V 0 < 14 by omega) (by decide), show nI q + 3 = nI (q + 3) from nI_add q 3, inB_nI (show q + 3 < 88 by omega) (by decide), if_pos rfl, if_pos rfl, if_pos rfl, ix_nI (show q + 3 < 2 ^ 31 by omega), ix_nI (show V 0 < 2 ^ 31 by omega), a1, wS_d v, wA_n (k := 39) (a := 45) _ _ (by decide), a2]
    rfl
  · subst e
    have b0 : 0 ≤ V 0 ∧ V 0 ≤ 13 := hb 0 (by decide)
    have b1 : 0 ≤ V 1 ∧ V 1 ≤ 13 := hb 1 (by decide)
    have a1 : v.1 45 (q + 2) = nI (V 1) := hV 1 (by decide)
    rw [if_neg (show ¬ nI 3 = 0 by decide), if_neg (show ¬ nI 3 = 1 by decide), if_neg (show ¬ nI 3 = 2 by decide), if_pos (show nI 3 = 3 from rfl), inB_nI (show V 0 < 14 by omega) (by decide), if_pos rfl, ix_nI (show V 0 < 2 ^ 31 by omega), a1, bit1 _ (show V 1 < 32 by omega)]
    show _ = some (if bt (v.1 41 (V 0)) (V 1) = true then v else if 24 ≤ v.1 33 8 then v else wA (wA v 41 (upd (v.1 41) (V 0) (v.1 41 (V 0) ||| jshl 1 (nI (V 1))))) 33 (upd (v.1 33) 8 (v.1 33 8 + 1)))
    cases hbt : bt (v.1 41 (V 0)) (V 1) with
    | true => rw [if_neg bnz, if_pos rfl]
    | false =>
      rw [if_pos bz, if_neg (show ¬ false = true by decide)]
      by_cases c : 24 ≤ v.1 33 8
      · rw [if_pos c, if_pos c]
      · rw [if_neg c, if_neg c, if_pos rfl, if_pos rfl]
        rfl
  · subst e
    have b0 : 1 ≤ V 0 ∧ V 0 ≤ 12 := hb 0 (by decide)
    rw [if_neg (show ¬ nI 4 = 0 by decide), if_neg (show ¬ nI 4 = 1 by decide), if_neg (show ¬ nI 4 = 2 by decide), if_neg (show ¬ nI 4 = 3 by decide), if_pos (show nI 4 = 4 from rfl)]
    have key := m_dt_207 (v := wA v 33 (upd (v.1 33) 11 (v.1 33 11 ||| jshl 1 (nI (V 0))))) (V := V) hq (show V 0 < 13 by omega) (fun i hi => by rw [wA_n _ _ (by decide)]; exact hV i hi) fu 0 (by decide) (by decide)
    rw [fb_put_0, wA_self] at key
    exact key
  · subst e
    rw [if_neg (show ¬ nI 5 = 0 by decide), if_neg (show ¬ nI 5 = 1 by decide), if_neg (show ¬ nI 5 = 2 by decide), if_neg (show ¬ nI 5 = 3 by decide), if_neg (show ¬ nI 5 = 4 by decide), if_pos (show nI 5 = 5 from rfl)]; rfl
  · subst e
    rw [if_neg (show ¬ nI 6 = 0 by decide), if_neg (show ¬ nI 6 = 1 by decide), if_neg (show ¬ nI 6 = 2 by decide), if_neg (show ¬ nI 6 = 3 by decide), if_neg (show ¬ nI 6 = 4 by decide), if_neg (show ¬ nI 6 = 5 by decide)]; rfl
