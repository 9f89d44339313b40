def f_X7_tell (p0 : Int32) (p1 : Int32) (w : Wd) : Option (Int32 × Wd) := Option.bind (f_X9_at 28 p0 w) fun q1 =>
    Option.bind (f_X9_put 28 p0 p1 q1.2) fun q2 =>
    some (q1.1, q2)
set_option maxRecDepth 100000 in
set_option maxHeartbeats 4000000 in
theorem c_X7_tell {d : Nat} (hd9 : 1 ≤ d) {p0 : Int32} {p1 : Int32} {w : Wd} {r : (Int32 × Wd)} (hr : f_X7_tell p0 p1 w = some r) : Con d yX7_tell cX7_tell 4 (some .int) [.ref 27, .int p0, .int p1] w (some (.int r.1)) r.2 := by
  refine Con_of (by decide) (Nat.le_of_ble_eq_true rfl) (fun X hX hE => ?_)
  have hX : bOk cX7_tell 4 RX7 d X := hX
  show bV X 0 [some (.ref 27), some (.int p0), some (.int p1), none] [] w
  obtain ⟨d, rfl⟩ : ∃ e, d = e + 1 := ⟨d - 1, by omega⟩
  unfold f_X7_tell at hr
  refine V_aload_n hX dX7_tell_0 rfl rfl ?_
  refine G_RX7_11 hX dX7_tell_1 ?_
  refine V_iload_n hX dX7_tell_4 rfl rfl ?_
  obtain ⟨q1, hq1, hr⟩ := bnd hr
  refine C_RX7_19 hX (c_X9_at (by omega) hq1) (Nat.le_of_ble_eq_true rfl) dX7_tell_5 ?_
  refine V_istore_n hX dX7_tell_8 rfl (Nat.le_of_ble_eq_true rfl) rfl ?_
  refine V_aload_n hX dX7_tell_9 rfl rfl ?_
  refine G_RX7_11 hX dX7_tell_10 ?_
  refine V_iload_n hX dX7_tell_13 rfl rfl ?_
  refine V_iload_n hX dX7_tell_14 rfl rfl ?_
  obtain ⟨q2, hq2, hr⟩ := bnd hr
  refine C_RX7_15 hX (c_X9_put (by omega) hq2) (Nat.le_of_ble_eq_true rfl) dX7_tell_15 ?_
  refine V_iload_n hX dX7_tell_18 rfl rfl ?_
  cases hr
  exact V_iret hX hE rfl dX7_tell_19
def f_X7_areUnlike (p0 : Int32) (p1 : Int32) (w : Wd) : Option (Int32 × Wd) := Option.bind (f_X9_at 28 p0 w) fun q1 =>
    Option.bind (f_X9_at 28 p1 q1.2) fun q2 =>
    if q1.1 = (-1) then
      (some (0, q2.2))
    else
      (if q2.1 = (-1) then
        (some (0, q2.2))
      else
        (if q1.1 = q2.1 then
          (some (0, q2.2))
        else
          (some (1, q2.2))))
set_option maxRecDepth 100000 in
set_option maxHeartbeats 4000000 in
theorem c_X7_areUnlike {d : Nat} (hd9 : 1 ≤ d) {p0 : Int32} {p1 : Int32} {w : Wd} {r : (Int32 × Wd)} (hr : f_X7_areUnlike p0 p1 w = some r) : Con d yX7_areUnlike cX7_areUnlike 5 (some .boolean) [.ref 27, .int p0, .int p1] w (some (.int r.1)) r.2 := by
  refine Con_of (by decide) (Nat.le_of_ble_eq_true rfl) (fun X hX hE => ?_)
  have hX : bOk cX7_areUnlike 5 RX7 d X := hX
  show bV X 0 [some (.ref 27), some (.int p0), some (.int p1), none, none] [] w
  obtain ⟨d, rfl⟩ : ∃ e, d = e + 1 := ⟨d - 1, by omega⟩
  unfold f_X7_areUnlike at hr
  refine V_aload_n hX dX7_areUnlike_0 rfl rfl ?_
  refine G_RX7_11 hX dX7_areUnlike_1 ?_
  refine V_iload_n hX dX7_areUnlike_4 rfl rfl ?_
  obtain ⟨q1, hq1, hr⟩ := bnd hr
  refine C_RX7_19 hX (c_X9_at (by omega) hq1) (Nat.le_of_ble_eq_true rfl) dX7_areUnlike_5 ?_
  refine V_istore_n hX dX7_areUnlike_8 rfl (Nat.le_of_ble_eq_true rfl) rfl ?_
  refine V_aload_n hX dX7_areUnlike_9 rfl rfl ?_
  refine G_RX7_11 hX dX7_areUnlike_10 ?_
  refine V_iload_n hX dX7_areUnlike_13 rfl rfl ?_
  obtain ⟨q2, hq2, hr⟩ := bnd hr
  refine C_RX7_19 hX (c_X9_at (by omega) hq2) (Nat.le_of_ble_eq_true rfl) dX7_areUnlike_14 ?_
  refine V_istore hX dX7_areUnlike_17 (Nat.le_of_ble_eq_true rfl) rfl ?_
  refine V_iload_n hX dX7_areUnlike_19 rfl rfl ?_
  refine V_iconst hX dX7_areUnlike_20 ic_m1 ?_
  refine V_icmp_eq (tgt := 40) hX dX7_areUnlike_21 (by decide) (fun h21 => ?_) (fun h21 => ?_)
  · rw [if_pos h21] at hr
    refine V_iconst hX dX7_areUnlike_40 ic_0 ?_
    cases hr
    exact V_iret hX hE rfl dX7_areUnlike_41
  · rw [if_neg h21] at hr
    refine V_iload hX dX7_areUnlike_24 rfl ?_
    refine V_iconst hX dX7_areUnlike_26 ic_m1 ?_
    refine V_icmp_eq (tgt := 40) hX dX7_areUnlike_27 (by decide) (fun h27 => ?_) (fun h27 => ?_)
    · rw [if_pos h27] at hr
      refine V_iconst hX dX7_areUnlike_40 ic_0 ?_
      cases hr
      exact V_iret hX hE rfl dX7_areUnlike_41
    · rw [if_neg h27] at hr
      refine V_iload_n hX dX7_areUnlike_30 rfl rfl ?_
      refine V_iload hX dX7_areUnlike_31 rfl ?_
      refine V_icmp_eq (tgt := 40) hX dX7_areUnlike_33 (by decide) (fun h33 => ?_) (fun h33 => ?_)
      · rw [if_pos h33] at hr
        refine V_iconst hX dX7_areUnlike_40 ic_0 ?_
        cases hr
        exact V_iret hX hE rfl dX7_areUnlike_41
      · rw [if_neg h33] at hr
        refine V_iconst hX dX7_areUnlike_36 ic_1 ?_
        refine V_goto (tgt := 41) hX dX7_areUnlike_37 (by decide) ?_
        cases hr
        exact V_iret hX hE rfl dX7_areUnlike_41
def f_X7_allAlike_10 (k2 : Int32 → Int32 → Wd → Option (Int32 × Wd)) : Nat → Int32 → Int32 → Int32 → Wd → Option (Int32 × Wd)
  | 0, _, _, _, _ => none
  | n + 1, x1, x2, x3, w => if 30 ≤ x3 then
        (k2 x1 (x2 + 1) w)
      else
        (if 30 ≤ (x2 + (x3 * x1)) then
          (k2 x1 (x2 + 1) w)
        else
          (Option.bind (f_X7_areUnlike x2 (x2 + (x3 * x1)) w) fun q1 =>
          if q1.1 = 0 then
            (f_X7_allAlike_10 k2 n x1 x2 (x3 + 1) q1.2)
          else
            (some (0, q1.2))))
def f_X7_allAlike_2 : Nat → Int32 → Int32 → Wd → Option (Int32 × Wd)
  | 0, _, _, _ => none
  | n + 1, x1, x2, w => if 30 ≤ x2 then
        (some (1, w))
      else
        (f_X7_allAlike_10 (f_X7_allAlike_2 n) fu x1 x2 1 w)
def f_X7_allAlike (p0 : Int32) (w : Wd) : Option (Int32 × Wd) := f_X7_allAlike_2 fu p0 0 w
set_option maxRecDepth 100000 in
set_option maxHeartbeats 4000000 in
theorem v_X7_allAlike_10 {d : Nat} (hd9 : 2 ≤ d) {X : bX} (hX : bOk cX7_allAlike 4 RX7 d X) {r : (Int32 × Wd)} (hE : bEnd (some .boolean) (some (.int r.1)) r.2 X) {k2 : Int32 → Int32 → Wd → Option (Int32 × Wd)} (hk2 : ∀ (x1 : Int32) (x2 : Int32) (w : Wd), k2 x1 x2 w = some r → bV X 2 [some (.ref 27), some (.int x1), some (.int x2), none] [] w) : ∀ (n : Nat) (x1 : Int32) (x2 : Int32) (x3 : Int32) (w : Wd), f_X7_allAlike_10 k2 n x1 x2 x3 w = some r → bV X 10 [some (.ref 27), some (.int x1), some (.int x2), some (.int x3)] [] w := by
  obtain ⟨d, rfl⟩ : ∃ e, d = e + 1 := ⟨d - 1, by omega⟩
  intro n
  induction n with
  | zero => intro x1 x2 x3 w hr; exact absurd hr (by simp [f_X7_allAlike_10])
  | succ n ih =>
    intro x1 x2 x3 w hr
    rw [f_X7_allAlike_10] at hr
    refine V_iload_n hX dX7_allAlike_10 rfl rfl ?_
    refine V_bipush hX dX7_allAlike_11 bp_30 ?_
    refine V_icmp_ge (tgt := 47) hX dX7_allAlike_13 (by decide) (fun h13 => ?_) (fun h13 => ?_)
    · rw [if_pos h13] at hr
      refine V_iinc hX dX7_allAlike_47 rfl (ii_1 _) (Nat.le_of_ble_eq_true rfl) rfl ?_
      refine V_goto (tgt := 2) hX dX7_allAlike_50 (by decide) ?_
      refine V_mask [true, true, true, false] ?_
      exact hk2 _ _ _ hr
    · rw [if_neg h13] at hr
      refine V_iload_n hX dX7_allAlike_16 rfl rfl ?_
      refine V_iload_n hX dX7_allAlike_17 rfl rfl ?_
      refine V_iload_n hX dX7_allAlike_18 rfl rfl ?_
      refine V_imul hX dX7_allAlike_19 ?_
      refine V_iadd hX dX7_allAlike_20 ?_
      refine V_bipush hX dX7_allAlike_21 bp_30 ?_
      refine V_icmp_ge (tgt := 47) hX dX7_allAlike_23 (by decide) (fun h23 => ?_) (fun h23 => ?_)
      · rw [if_pos h23] at hr
        refine V_iinc hX dX7_allAlike_47 rfl (ii_1 _) (Nat.le_of_ble_eq_true rfl) rfl ?_
        refine V_goto (tgt := 2) hX dX7_allAlike_50 (by decide) ?_
        refine V_mask [true, true, true, false] ?_
        exact hk2 _ _ _ hr
      · rw [if_neg h23] at hr
        refine V_aload_n hX dX7_allAlike_26 rfl rfl ?_
        refine V_iload_n hX dX7_allAlike_27 rfl rfl ?_
        refine V_iload_n hX dX7_allAlike_28 rfl rfl ?_
        refine V_iload_n hX dX7_allAlike_29 rfl rfl ?_
        refine V_iload_n hX dX7_allAlike_30 rfl rfl ?_
        refine V_imul hX dX7_allAlike_31 ?_
        refine V_iadd hX dX7_allAlike_32 ?_
        obtain ⟨q1, hq1, hr⟩ := bnd hr
        refine C_RX7_27 hX (c_X7_areUnlike (by omega) hq1) (Nat.le_of_ble_eq_true rfl) dX7_allAlike_33 ?_
        refine V_if_eq (tgt := 41) hX dX7_allAlike_36 (by decide) (fun h36 => ?_) (fun h36 => ?_)
        · rw [if_pos h36] at hr
          refine V_iinc hX dX7_allAlike_41 rfl (ii_1 _) (Nat.le_of_ble_eq_true rfl) rfl ?_
          refine V_goto (tgt := 10) hX dX7_allAlike_44 (by decide) ?_
          refine V_mask [true, true, true, true] ?_
          exact ih _ _ _ _ hr
        · rw [if_neg h36] at hr
          refine V_iconst hX dX7_allAlike_39 ic_0 ?_
          cases hr
          exact V_iret hX hE rfl dX7_allAlike_40
set_option maxRecDepth 100000 in
set_option maxHeartbeats 4000000 in
theorem v_X7_allAlike_2 {d : Nat} (hd9 : 2 ≤ d) {X : bX} (hX : bOk cX7_allAlike 4 RX7 d X) {r : (Int32 × Wd)} (hE : bEnd (some .boolean) (some (.int r.1)) r.2 X) : ∀ (n : Nat) (x1 : Int32) (x2 : Int32) (w : Wd), f_X7_allAlike_2 n x1 x2 w = some r → bV X 2 [some (.ref 27), some (.int x1), some (.int x2), none] [] w := by
  obtain ⟨d, rfl⟩ : ∃ e, d = e + 1 := ⟨d - 1, by omega⟩
  intro n
  induction n with
  | zero => intro x1 x2 w hr; exact absurd hr (by simp [f_X7_allAlike_2])
  | succ n ih =>
    intro x1 x2 w hr
    rw [f_X7_allAlike_2] at hr
    refine V_iload_n hX dX7_allAlike_2 rfl rfl ?_
    refine V_bipush hX dX7_allAlike_3 bp_30 ?_
    refine V_icmp_ge (tgt := 53) hX dX7_allAlike_5 (by decide) (fun h5 => ?_) (fun h5 => ?_)
    · rw [if_pos h5] at hr
      refine V_iconst hX dX7_allAlike_53 ic_1 ?_
      cases hr
      exact V_iret hX hE rfl dX7_allAlike_54
    · rw [if_neg h5] at hr
      refine V_iconst hX dX7_allAlike_8 ic_1 ?_
      refine V_istore_n hX dX7_allAlike_9 rfl (Nat.le_of_ble_eq_true rfl) rfl ?_
      refine V_mask [true, true, true, true] ?_
      exact v_X7_allAlike_10 hd9 hX hE ih _ _ _ _ _ hr
set_option maxRecDepth 100000 in
set_option maxHeartbeats 4000000 in
theorem c_X7_allAlike {d : Nat} (hd9 : 2 ≤ d) {p0 : Int32} {w : Wd} {r : (Int32 × Wd)} (hr : f_X7_allAlike p0 w = some r) : Con d yX7_allAlike cX7_allAlike 4 (some .boolean) [.ref 27, .int p0] w (some (.int r.1)) r.2 := by
  refine Con_of (by decide) (Nat.le_of_ble_eq_true rfl) (fun X hX hE => ?_)
  have hX : bOk cX7_allAlike 4 RX7 d X := hX
  show bV X 0 [some (.ref 27), some (.int p0), none, none] [] w
  obtain ⟨d, rfl⟩ : ∃ e, d = e + 1 := ⟨d - 1, by omega⟩
  unfold f_X7_allAlike at hr
  refine V_iconst hX dX7_allAlike_0 ic_0 ?_
  refine V_istore_n hX dX7_allAlike_1 rfl (Nat.le_of_ble_eq_true rfl) rfl ?_
  refine V_mask [true, true, true, false] ?_
  exact v_X7_allAlike_2 hd9 hX hE _ _ _ _ hr
def f_X7_leastRound_2 : Nat → Int32 → Wd → Option (Int32 × Wd)
  | 0, _, _ => none
  | n + 1, x1, w => if 30 ≤ x1 then
        (some (30, w))
      else
        (Option.bind (f_X7_allAlike x1 w) fun q1 =>
        if q1.1 = 0 then
          (f_X7_leastRound_2 n (x1 + 1) q1.2)
        else
          (some (x1, q1.2)))
def f_X7_leastRound (w : Wd) : Option (Int32 × Wd) := f_X7_leastRound_2 fu 1 w
set_option maxRecDepth 100000 in
set_option maxHeartbeats 4000000 in
theorem v_X7_leastRound_2 {d : Nat} (hd9 : 3 ≤ d) {X : bX} (hX : bOk cX7_leastRound 2 RX7 d X) {r : (Int32 × Wd)} (hE : bEnd (some .int) (some (.int r.1)) r.2 X) : ∀ (n : Nat) (x1 : Int32) (w : Wd), f_X7_leastRound_2 n x1 w = some r → bV X 2 [some (.ref 27), some (.int x1)] [] w := by
  obtain ⟨d, rfl⟩ : ∃ e, d = e + 1 := ⟨d - 1, by omega⟩
  intro n
  induction n with
  | zero => intro x1 w hr; exact absurd hr (by simp [f_X7_leastRound_2])
  | succ n ih =>
    intro x1 w hr
    rw [f_X7_leastRound_2] at hr
    refine V_iload_n hX dX7_leastRound_2 rfl rfl ?_
    refine V_bipush hX dX7_leastRound_3 bp_30 ?_
    refine V_icmp_ge (tgt := 24) hX dX7_leastRound_5 (by decide) (fun h5 => ?_) (fun h5 => ?_)
    · rw [if_pos h5] at hr
      refine V_bipush hX dX7_leastRound_24 bp_30 ?_
      cases hr
      exact V_iret hX hE rfl dX7_leastRound_26
    · rw [if_neg h5] at hr
      refine V_aload_n hX dX7_leastRound_8 rfl rfl ?_
      refine V_iload_n hX dX7_leastRound_9 rfl rfl ?_
      obtain ⟨q1, hq1, hr⟩ := bnd hr
      refine C_RX7_23 hX (c_X7_allAlike (by omega) hq1) (Nat.le_of_ble_eq_true rfl) dX7_leastRound_10 ?_
      refine V_if_eq (tgt := 18) hX dX7_leastRound_13 (by decide) (fun h13 => ?_) (fun h13 => ?_)
      · rw [if_pos h13] at hr
        refine V_iinc hX dX7_leastRound_18 rfl (ii_1 _) (Nat.le_of_ble_eq_true rfl) rfl ?_
        refine V_goto (tgt := 2) hX dX7_leastRound_21 (by decide) ?_
        refine V_mask [true, true] ?_
        exact ih _ _ hr
      · rw [if_neg h13] at hr
        refine V_iload_n hX dX7_leastRound_16 rfl rfl ?_
        cases hr
        exact V_iret hX hE rfl dX7_leastRound_17
set_option maxRecDepth 100000 in
set_option maxHeartbeats 4000000 in
theorem c_X7_leastRound {d : Nat} (hd9 : 3 ≤ d) {w : Wd} {r : (Int32 × Wd)} (hr : f_X7_leastRound w = some r) : Con d yX7_leastRound cX7_leastRound 2 (some .int) [.ref 27] w (some (.int r.1)) r.2 := by
  refine Con_of (by decide) (Nat.le_of_ble_eq_true rfl) (fun X hX hE => ?_)
  have hX : bOk cX7_leastRound 2 RX7 d X := hX
  show bV X 0 [some (.ref 27), none] [] w
  obtain ⟨d, rfl⟩ : ∃ e, d = e + 1 := ⟨d - 1, by omega⟩
  unfold f_X7_leastRound at hr
  refine V_iconst hX dX7_leastRound_0 ic_1 ?_
  refine V_istore_n hX dX7_leastRound_1 rfl (Nat.le_of_ble_eq_true rfl) rfl ?_
  refine V_mask [true, true] ?_
  exact v_X7_leastRound_2 hd9 hX hE _ _ _ hr
def f_X7_holderByTurns_14 : Nat → Int32 → Int32 → Int32 → Wd → Option (Int32 × Wd)
  | 0, _, _, _, _ => none
  | n + 1, x2, x3, x4, w => if 30 ≤ x4 then
        (some ((-1), w))
      else
        (Option.bind (f_X9_remainder x4 x2 w) fun q1 =>
        if q1.1 = x3 then
          (Option.bind (f_X9_at 28 x4 q1.2) fun q2 =>
          if q2.1 = (-1) then
            (f_X7_holderByTurns_14 n x2 x3 (x4 + 1) q2.2)
          else
            (Option.bind (f_X9_at 28 x4 q2.2) fun q3 =>
            some (q3.1, q3.2)))
        else
          (f_X7_holderByTurns_14 n x2 x3 (x4 + 1) q1.2))
def f_X7_holderByTurns (p0 : Int32) (w : Wd) : Option (Int32 × Wd) := Option.bind (f_X7_leastRound w) fun q1 =>
    Option.bind (f_X9_remainder p0 q1.1 q1.2) fun q2 =>
    f_X7_holderByTurns_14 fu q1.1 q2.1 0 q2.2
set_option maxRecDepth 100000 in
set_option maxHeartbeats 4000000 in
theorem v_X7_holderByTurns_14 {d : Nat} (hd9 : 4 ≤ d) {X : bX} (hX : bOk cX7_holderByTurns 5 RX7 d X) {r : (Int32 × Wd)} (hE : bEnd (some .int) (some (.int r.1)) r.2 X) : ∀ (n : Nat) (x2 : Int32) (x3 : Int32) (x4 : Int32) (w : Wd), f_X7_holderByTurns_14 n x2 x3 x4 w = some r → bV X 14 [some (.ref 27), none, some (.int x2), some (.int x3), some (.int x4)] [] w := by
  obtain ⟨d, rfl⟩ : ∃ e, d = e + 1 := ⟨d - 1, by omega⟩
  intro n
  induction n with
  | zero => intro x2 x3 x4 w hr; exact absurd hr (by simp [f_X7_holderByTurns_14])
  | succ n ih =>
    intro x2 x3 x4 w hr
    rw [f_X7_holderByTurns_14] at hr
    refine V_iload hX dX7_holderByTurns_14 rfl ?_
    refine V_bipush hX dX7_holderByTurns_16 bp_30 ?_
    refine V_icmp_ge (tgt := 60) hX dX7_holderByTurns_18 (by decide) (fun h18 => ?_) (fun h18 => ?_)
    · rw [if_pos h18] at hr
      refine V_iconst hX dX7_holderByTurns_60 ic_m1 ?_
      cases hr
      exact V_iret hX hE rfl dX7_holderByTurns_61
    · rw [if_neg h18] at hr
      refine V_iload hX dX7_holderByTurns_21 rfl ?_
      refine V_iload_n hX dX7_holderByTurns_23 rfl rfl ?_
      obtain ⟨q1, hq1, hr⟩ := bnd hr
      refine C_RX7_35 hX (c_X9_remainder (by omega) hq1) (Nat.le_of_ble_eq_true rfl) dX7_holderByTurns_24 ?_
      refine V_iload_n hX dX7_holderByTurns_27 rfl rfl ?_
      refine V_icmp_ne (tgt := 54) hX dX7_holderByTurns_28 (by decide) (fun h28 => ?_) (fun h28 => ?_)
      · rw [if_neg h28] at hr
        refine V_iinc hX dX7_holderByTurns_54 rfl (ii_1 _) (Nat.le_of_ble_eq_true rfl) rfl ?_
        refine V_goto (tgt := 14) hX dX7_holderByTurns_57 (by decide) ?_
        refine V_mask [true, false, true, true, true] ?_
        exact ih _ _ _ _ hr
      · rw [if_pos h28] at hr
        refine V_aload_n hX dX7_holderByTurns_31 rfl rfl ?_
        refine G_RX7_11 hX dX7_holderByTurns_32 ?_
        refine V_iload hX dX7_holderByTurns_35 rfl ?_
        obtain ⟨q2, hq2, hr⟩ := bnd hr
        refine C_RX7_19 hX (c_X9_at (by omega) hq2) (Nat.le_of_ble_eq_true rfl) dX7_holderByTurns_37 ?_
        refine V_iconst hX dX7_holderByTurns_40 ic_m1 ?_
        refine V_icmp_eq (tgt := 54) hX dX7_holderByTurns_41 (by decide) (fun h41 => ?_) (fun h41 => ?_)
        · rw [if_pos h41] at hr
          refine V_iinc hX dX7_holderByTurns_54 rfl (ii_1 _) (Nat.le_of_ble_eq_true rfl) rfl ?_
          refine V_goto (tgt := 14) hX dX7_holderByTurns_57 (by decide) ?_
          refine V_mask [true, false, true, true, true] ?_
          exact ih _ _ _ _ hr
        · rw [if_neg h41] at hr
          refine V_aload_n hX dX7_holderByTurns_44 rfl rfl ?_
          refine G_RX7_11 hX dX7_holderByTurns_45 ?_
          refine V_iload hX dX7_holderByTurns_48 rfl ?_
          obtain ⟨q3, hq3, hr⟩ := bnd hr
          refine C_RX7_19 hX (c_X9_at (by omega) hq3) (Nat.le_of_ble_eq_true rfl) dX7_holderByTurns_50 ?_
          cases hr
          exact V_iret hX hE rfl dX7_holderByTurns_53
set_option maxRecDepth 100000 in
set_option maxHeartbeats 4000000 in
theorem c_X7_holderByTurns {d : Nat} (hd9 : 4 ≤ d) {p0 : Int32} {w : Wd} {r : (Int32 × Wd)} (hr : f_X7_holderByTurns p0 w = some r) : Con d yX7_holderByTurns cX7_holderByTurns 5 (some .int) [.ref 27, .int p0] w (some (.int r.1)) r.2 := by
  refine Con_of (by decide) (Nat.le_of_ble_eq_true rfl) (fun X hX hE => ?_)
  have hX : bOk cX7_holderByTurns 5 RX7 d X := hX
  show bV X 0 [some (.ref 27), some (.int p0), none, none, none] [] w
  obtain ⟨d, rfl⟩ : ∃ e, d = e + 1 := ⟨d - 1, by omega⟩
  unfold f_X7_holderByTurns at hr
  refine V_aload_n hX dX7_holderByTurns_0 rfl rfl ?_
  obtain ⟨q1, hq1, hr⟩ := bnd hr
  refine C_RX7_31 hX (c_X7_leastRound (by omega) hq1) (Nat.le_of_ble_eq_true rfl) dX7_holderByTurns_1 ?_
  refine V_istore_n hX dX7_holderByTurns_4 rfl (Nat.le_of_ble_eq_true rfl) rfl ?_
  refine V_iload_n hX dX7_holderByTurns_5 rfl rfl ?_
  refine V_iload_n hX dX7_holderByTurns_6 rfl rfl ?_
  obtain ⟨q2, hq2, hr⟩ := bnd hr
  refine C_RX7_35 hX (c_X9_remainder (by omega) hq2) (Nat.le_of_ble_eq_true rfl) dX7_holderByTurns_7 ?_
  refine V_istore_n hX dX7_holderByTurns_10 rfl (Nat.le_of_ble_eq_true rfl) rfl ?_
  refine V_iconst hX dX7_holderByTurns_11 ic_0 ?_
  refine V_istore hX dX7_holderByTurns_12 (Nat.le_of_ble_eq_true rfl) rfl ?_
  refine V_mask [true, false, true, true, true] ?_
  exact v_X7_holderByTurns_14 hd9 hX hE _ _ _ _ _ hr
