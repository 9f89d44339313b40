def f_X9_at (k : Nat) (i : Int32) (w : Wd) : Option (Int32 × Wd) := match arN k with
  | none => none
  | some n => if i < 0 then some (0, w) else if nI n ≤ i then some (0, w) else some (rdC w k (ix i), w)
theorem c_X9_at {d : Nat} (_ : 0 ≤ d) {k : Nat} {i : Int32} {w : Wd} {r : Int32 × Wd} (hr : f_X9_at k i w = some r) : Con d yX9_at cX9_at 2 (some .int) [.ref k, .int i] w (some (.int r.1)) r.2 := by
  refine Con_of (by decide) (Nat.le_of_ble_eq_true rfl) (fun X hX hE => ?_)
  have hX : bOk cX9_at 2 RX9 d X := hX
  show bV X 0 [some (.ref k), some (.int i)] [] w
  unfold f_X9_at at hr
  cases hn : arN k with
  | none => rw [hn] at hr; cases hr
  | some n =>
    rw [hn] at hr
    dsimp only at hr
    refine V_iload_n hX dX9_at_0 rfl rfl ?_
    refine V_if_lt (tgt := 16) hX dX9_at_1 (by decide) (fun h => ?_) (fun h => ?_)
    · rw [if_pos h] at hr
      refine V_iconst hX dX9_at_16 ic_0 ?_
      cases hr
      exact V_iret hX hE rfl dX9_at_17
    · rw [if_neg h] at hr
      refine V_iload_n hX dX9_at_4 rfl rfl ?_
      refine V_aload_n hX dX9_at_5 rfl rfl ?_
      refine V_alenC hX hn dX9_at_6 ?_
      refine V_icmp_ge (tgt := 16) hX dX9_at_7 (by decide) (fun h1 => ?_) (fun h1 => ?_)
      · rw [if_pos h1] at hr
        refine V_iconst hX dX9_at_16 ic_0 ?_
        cases hr
        exact V_iret hX hE rfl dX9_at_17
      · rw [if_neg h1] at hr
        refine V_aload_n hX dX9_at_10 rfl rfl ?_
        refine V_iload_n hX dX9_at_11 rfl rfl ?_
        refine V_aldC hX hn (in_of (arN_lt hn) h h1) dX9_at_12 ?_
        refine V_goto (tgt := 17) hX dX9_at_13 (by decide) ?_
        cases hr
        exact V_iret hX hE rfl dX9_at_17
/-- the arrays that may be written -/
def arW (k : Nat) : Option Nat := if k < 57 then (match lay k with | .inl n => some n | .inr _ => none) else none
theorem arW_N {k n : Nat} (h : arW k = some n) : k < 57 ∧ lay k = .inl n ∧ arN k = some n := by
  unfold arW at h
  by_cases h2 : k < 57
  · rw [if_pos h2] at h
    refine ⟨h2, ?_, ?_⟩
    · cases hy : lay k with
      | inr q => rw [hy] at h; cases h
      | inl m => rw [hy] at h; cases h; rfl
    · unfold arN
      rw [if_neg (by omega), if_neg (by omega), if_pos h2]
      exact h
  · rw [if_neg h2] at h; cases h
def f_X9_put (k : Nat) (i x : Int32) (w : Wd) : Option Wd := match arW k with
  | none => none
  | some n => if i < 0 then some w else if nI n ≤ i then some w else some (wS w k (ix i) x)
theorem c_X9_put {d : Nat} (_ : 0 ≤ d) {k : Nat} {i x : Int32} {w r : Wd} (hr : f_X9_put k i x w = some r) : Con d yX9_put cX9_put 3 none [.ref k, .int i, .int x] w none r := by
  refine Con_of (by decide) (Nat.le_of_ble_eq_true rfl) (fun X hX hE => ?_)
  have hX : bOk cX9_put 3 RX9 d X := hX
  show bV X 0 [some (.ref k), some (.int i), some (.int x)] [] w
  unfold f_X9_put at hr
  cases hn : arW k with
  | none => rw [hn] at hr; cases hr
  | some n =>
    obtain ⟨hk, hy, hN⟩ := arW_N hn
    rw [hn] at hr
    dsimp only at hr
    refine V_iload_n hX dX9_put_0 rfl rfl ?_
    refine V_if_lt (tgt := 14) hX dX9_put_1 (by decide) (fun h => ?_) (fun h => ?_)
    · rw [if_pos h] at hr
      cases hr
      exact V_vret hX hE dX9_put_14
    · rw [if_neg h] at hr
      refine V_iload_n hX dX9_put_4 rfl rfl ?_
      refine V_aload_n hX dX9_put_5 rfl rfl ?_
      refine V_alenC hX hN dX9_put_6 ?_
      refine V_icmp_ge (tgt := 14) hX dX9_put_7 (by decide) (fun h1 => ?_) (fun h1 => ?_)
      · rw [if_pos h1] at hr
        cases hr
        exact V_vret hX hE dX9_put_14
      · rw [if_neg h1] at hr
        refine V_aload_n hX dX9_put_10 rfl rfl ?_
        refine V_iload_n hX dX9_put_11 rfl rfl ?_
        refine V_iload_n hX dX9_put_12 rfl rfl ?_
        refine V_iast hX hk hy (in_of (arN_lt hN) h h1) dX9_put_13 ?_
        cases hr
        exact V_vret hX hE dX9_put_14
