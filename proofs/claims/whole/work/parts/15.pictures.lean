def f_X2_add (p0 : Int32) (p1 : Int32) (p2 : Int32) (w : Wd) : Option (Int32 × Wd) := if (w.1 29 4) < 8 then
      (Option.bind (f_X9_put 30 (w.1 29 4) p0 w) fun q1 =>
      Option.bind (f_X9_put 31 (q1.1 29 4) p1 q1) fun q2 =>
      Option.bind (f_X9_put 32 (q2.1 29 4) p2 q2) fun q3 =>
      some (1, (wS q3 29 4 ((q3.1 29 4) + 1))))
    else
      (some (0, w))
set_option maxRecDepth 100000 in
set_option maxHeartbeats 4000000 in
theorem c_X2_add {d : Nat} (hd9 : 1 ≤ d) {p0 : Int32} {p1 : Int32} {p2 : Int32} {w : Wd} {r : (Int32 × Wd)} (hr : f_X2_add p0 p1 p2 w = some r) : Con d yX2_add cX2_add 4 (some .boolean) [.ref 29, .int p0, .int p1, .int p2] w (some (.int r.1)) r.2 := by
  refine Con_of (by decide) (Nat.le_of_ble_eq_true rfl) (fun X hX hE => ?_)
  have hX : bOk cX2_add 4 RX2 d X := hX
  show bV X 0 [some (.ref 29), some (.int p0), some (.int p1), some (.int p2)] [] w
  obtain ⟨d, rfl⟩ : ∃ e, d = e + 1 := ⟨d - 1, by omega⟩
  unfold f_X2_add at hr
  refine V_aload_n hX dX2_add_0 rfl rfl ?_
  refine G_RX2_25 hX dX2_add_1 ?_
  refine V_bipush hX dX2_add_4 bp_8 ?_
  refine V_icmp_lt (tgt := 11) hX dX2_add_6 (by decide) (fun h6 => ?_) (fun h6 => ?_)
  · rw [if_pos h6] at hr
    refine V_aload_n hX dX2_add_11 rfl rfl ?_
    refine G_RX2_11 hX dX2_add_12 ?_
    refine V_aload_n hX dX2_add_15 rfl rfl ?_
    refine G_RX2_25 hX dX2_add_16 ?_
    refine V_iload_n hX dX2_add_19 rfl rfl ?_
    obtain ⟨q1, hq1, hr⟩ := bnd hr
    refine C_RX2_29 hX (c_X9_put (by omega) hq1) (Nat.le_of_ble_eq_true rfl) dX2_add_20 ?_
    refine V_aload_n hX dX2_add_23 rfl rfl ?_
    refine G_RX2_15 hX dX2_add_24 ?_
    refine V_aload_n hX dX2_add_27 rfl rfl ?_
    refine G_RX2_25 hX dX2_add_28 ?_
    refine V_iload_n hX dX2_add_31 rfl rfl ?_
    obtain ⟨q2, hq2, hr⟩ := bnd hr
    refine C_RX2_29 hX (c_X9_put (by omega) hq2) (Nat.le_of_ble_eq_true rfl) dX2_add_32 ?_
    refine V_aload_n hX dX2_add_35 rfl rfl ?_
    refine G_RX2_18 hX dX2_add_36 ?_
    refine V_aload_n hX dX2_add_39 rfl rfl ?_
    refine G_RX2_25 hX dX2_add_40 ?_
    refine V_iload_n hX dX2_add_43 rfl rfl ?_
    obtain ⟨q3, hq3, hr⟩ := bnd hr
    refine C_RX2_29 hX (c_X9_put (by omega) hq3) (Nat.le_of_ble_eq_true rfl) dX2_add_44 ?_
    refine V_aload_n hX dX2_add_47 rfl rfl ?_
    refine V_dup hX dX2_add_48 rfl ?_
    refine G_RX2_25 hX dX2_add_49 ?_
    refine V_iconst hX dX2_add_52 ic_1 ?_
    refine V_iadd hX dX2_add_53 ?_
    refine P_RX2_25 hX dX2_add_54 ?_
    refine V_iconst hX dX2_add_57 ic_1 ?_
    cases hr
    exact V_iret hX hE rfl dX2_add_58
  · rw [if_neg h6] at hr
    refine V_iconst hX dX2_add_9 ic_0 ?_
    cases hr
    exact V_iret hX hE rfl dX2_add_10
def f_X2_shouldShow (p0 : Int32) (p1 : Int32) (w : Wd) : Option (Int32 × Wd) := Option.bind (f_X0_part p1 2 w) fun q1 =>
    Option.bind (f_X9_at 30 p0 q1.2) fun q2 =>
    if q1.1 = q2.1 then
      (some (0, q2.2))
    else
      (Option.bind (f_X0_part p1 8 q2.2) fun q3 =>
      Option.bind (f_X9_at 31 p0 q3.2) fun q4 =>
      if q3.1 < q4.1 then
        (some (0, q4.2))
      else
        (some (1, q4.2)))
set_option maxRecDepth 100000 in
set_option maxHeartbeats 4000000 in
theorem c_X2_shouldShow {d : Nat} (hd9 : 2 ≤ d) {p0 : Int32} {p1 : Int32} {w : Wd} {r : (Int32 × Wd)} (hr : f_X2_shouldShow p0 p1 w = some r) : Con d yX2_shouldShow cX2_shouldShow 3 (some .boolean) [.ref 29, .int p0, .int p1] w (some (.int r.1)) r.2 := by
  refine Con_of (by decide) (Nat.le_of_ble_eq_true rfl) (fun X hX hE => ?_)
  have hX : bOk cX2_shouldShow 3 RX2 d X := hX
  show bV X 0 [some (.ref 29), some (.int p0), some (.int p1)] [] w
  obtain ⟨d, rfl⟩ : ∃ e, d = e + 1 := ⟨d - 1, by omega⟩
  unfold f_X2_shouldShow at hr
  refine V_aload_n hX dX2_shouldShow_0 rfl rfl ?_
  refine G_RX2_21 hX dX2_shouldShow_1 ?_
  refine V_iload_n hX dX2_shouldShow_4 rfl rfl ?_
  refine V_iconst hX dX2_shouldShow_5 ic_2 ?_
  obtain ⟨q1, hq1, hr⟩ := bnd hr
  refine C_RX2_33 hX (c_X0_part (by omega) hq1) (Nat.le_of_ble_eq_true rfl) dX2_shouldShow_6 ?_
  refine V_aload_n hX dX2_shouldShow_9 rfl rfl ?_
  refine G_RX2_11 hX dX2_shouldShow_10 ?_
  refine V_iload_n hX dX2_shouldShow_13 rfl rfl ?_
  obtain ⟨q2, hq2, hr⟩ := bnd hr
  refine C_RX2_39 hX (c_X9_at (by omega) hq2) (Nat.le_of_ble_eq_true rfl) dX2_shouldShow_14 ?_
  refine V_icmp_eq (tgt := 45) hX dX2_shouldShow_17 (by decide) (fun h17 => ?_) (fun h17 => ?_)
  · rw [if_pos h17] at hr
    refine V_iconst hX dX2_shouldShow_45 ic_0 ?_
    cases hr
    exact V_iret hX hE rfl dX2_shouldShow_46
  · rw [if_neg h17] at hr
    refine V_aload_n hX dX2_shouldShow_20 rfl rfl ?_
    refine G_RX2_21 hX dX2_shouldShow_21 ?_
    refine V_iload_n hX dX2_shouldShow_24 rfl rfl ?_
    refine V_bipush hX dX2_shouldShow_25 bp_8 ?_
    obtain ⟨q3, hq3, hr⟩ := bnd hr
    refine C_RX2_33 hX (c_X0_part (by omega) hq3) (Nat.le_of_ble_eq_true rfl) dX2_shouldShow_27 ?_
    refine V_aload_n hX dX2_shouldShow_30 rfl rfl ?_
    refine G_RX2_15 hX dX2_shouldShow_31 ?_
    refine V_iload_n hX dX2_shouldShow_34 rfl rfl ?_
    obtain ⟨q4, hq4, hr⟩ := bnd hr
    refine C_RX2_39 hX (c_X9_at (by omega) hq4) (Nat.le_of_ble_eq_true rfl) dX2_shouldShow_35 ?_
    refine V_icmp_lt (tgt := 45) hX dX2_shouldShow_38 (by decide) (fun h38 => ?_) (fun h38 => ?_)
    · rw [if_pos h38] at hr
      refine V_iconst hX dX2_shouldShow_45 ic_0 ?_
      cases hr
      exact V_iret hX hE rfl dX2_shouldShow_46
    · rw [if_neg h38] at hr
      refine V_iconst hX dX2_shouldShow_41 ic_1 ?_
      refine V_goto (tgt := 46) hX dX2_shouldShow_42 (by decide) ?_
      cases hr
      exact V_iret hX hE rfl dX2_shouldShow_46
def f_X2_dueIn_4 : Nat → Int32 → Int32 → Int32 → Wd → Option (Int32 × Wd)
  | 0, _, _, _, _ => none
  | n + 1, x1, x2, x3, w => if 8 ≤ x3 then
        (some (x2, w))
      else
        (Option.bind (f_X0_isBundle x3 w) fun q1 =>
        if q1.1 = 0 then
          (f_X2_dueIn_4 n x1 x2 (x3 + 1) q1.2)
        else
          (Option.bind (f_X2_shouldShow x1 x3 q1.2) fun q2 =>
          if q2.1 = 0 then
            (f_X2_dueIn_4 n x1 x2 (x3 + 1) q2.2)
          else
            (f_X2_dueIn_4 n x1 (x2 ||| (jshl 1 x3)) (x3 + 1) q2.2)))
def f_X2_dueIn (p0 : Int32) (w : Wd) : Option (Int32 × Wd) := f_X2_dueIn_4 fu p0 0 0 w
set_option maxRecDepth 100000 in
set_option maxHeartbeats 4000000 in
theorem v_X2_dueIn_4 {d : Nat} (hd9 : 3 ≤ d) {X : bX} (hX : bOk cX2_dueIn 4 RX2 d X) {r : (Int32 × Wd)} (hE : bEnd (some .int) (some (.int r.1)) r.2 X) : ∀ (n : Nat) (x1 : Int32) (x2 : Int32) (x3 : Int32) (w : Wd), f_X2_dueIn_4 n x1 x2 x3 w = some r → bV X 4 [some (.ref 29), some (.int x1), some (.int x2), some (.int x3)] [] w := by
  obtain ⟨d, rfl⟩ : ∃ e, d = e + 1 := ⟨d - 1, by omega⟩
  intro n
  induction n with
  | zero => intro x1 x2 x3 w hr; exact absurd hr (by simp [f_X2_dueIn_4])
  | succ n ih =>
    intro x1 x2 x3 w hr
    rw [f_X2_dueIn_4] at hr
    refine V_iload_n hX dX2_dueIn_4 rfl rfl ?_
    refine V_bipush hX dX2_dueIn_5 bp_8 ?_
    refine V_icmp_ge (tgt := 42) hX dX2_dueIn_7 (by decide) (fun h7 => ?_) (fun h7 => ?_)
    · rw [if_pos h7] at hr
      refine V_iload_n hX dX2_dueIn_42 rfl rfl ?_
      cases hr
      exact V_iret hX hE rfl dX2_dueIn_43
    · rw [if_neg h7] at hr
      refine V_aload_n hX dX2_dueIn_10 rfl rfl ?_
      refine G_RX2_21 hX dX2_dueIn_11 ?_
      refine V_iload_n hX dX2_dueIn_14 rfl rfl ?_
      obtain ⟨q1, hq1, hr⟩ := bnd hr
      refine C_RX2_54 hX (c_X0_isBundle (by omega) hq1) (Nat.le_of_ble_eq_true rfl) dX2_dueIn_15 ?_
      refine V_if_eq (tgt := 36) hX dX2_dueIn_18 (by decide) (fun h18 => ?_) (fun h18 => ?_)
      · rw [if_pos h18] at hr
        refine V_iinc hX dX2_dueIn_36 rfl (ii_1 _) (Nat.le_of_ble_eq_true rfl) rfl ?_
        refine V_goto (tgt := 4) hX dX2_dueIn_39 (by decide) ?_
        refine V_mask [true, true, true, true] ?_
        exact ih _ _ _ _ hr
      · rw [if_neg h18] at hr
        refine V_aload_n hX dX2_dueIn_21 rfl rfl ?_
        refine V_iload_n hX dX2_dueIn_22 rfl rfl ?_
        refine V_iload_n hX dX2_dueIn_23 rfl rfl ?_
        obtain ⟨q2, hq2, hr⟩ := bnd hr
        refine C_RX2_58 hX (c_X2_shouldShow (by omega) hq2) (Nat.le_of_ble_eq_true rfl) dX2_dueIn_24 ?_
        refine V_if_eq (tgt := 36) hX dX2_dueIn_27 (by decide) (fun h27 => ?_) (fun h27 => ?_)
        · rw [if_pos h27] at hr
          refine V_iinc hX dX2_dueIn_36 rfl (ii_1 _) (Nat.le_of_ble_eq_true rfl) rfl ?_
          refine V_goto (tgt := 4) hX dX2_dueIn_39 (by decide) ?_
          refine V_mask [true, true, true, true] ?_
          exact ih _ _ _ _ hr
        · rw [if_neg h27] at hr
          refine V_iload_n hX dX2_dueIn_30 rfl rfl ?_
          refine V_iconst hX dX2_dueIn_31 ic_1 ?_
          refine V_iload_n hX dX2_dueIn_32 rfl rfl ?_
          refine V_ishl hX dX2_dueIn_33 ?_
          refine V_ior hX dX2_dueIn_34 ?_
          refine V_istore_n hX dX2_dueIn_35 rfl (Nat.le_of_ble_eq_true rfl) rfl ?_
          refine V_iinc hX dX2_dueIn_36 rfl (ii_1 _) (Nat.le_of_ble_eq_true rfl) rfl ?_
          refine V_goto (tgt := 4) hX dX2_dueIn_39 (by decide) ?_
          refine V_mask [true, true, true, true] ?_
          exact ih _ _ _ _ hr
set_option maxRecDepth 100000 in
set_option maxHeartbeats 4000000 in
theorem c_X2_dueIn {d : Nat} (hd9 : 3 ≤ d) {p0 : Int32} {w : Wd} {r : (Int32 × Wd)} (hr : f_X2_dueIn p0 w = some r) : Con d yX2_dueIn cX2_dueIn 4 (some .int) [.ref 29, .int p0] w (some (.int r.1)) r.2 := by
  refine Con_of (by decide) (Nat.le_of_ble_eq_true rfl) (fun X hX hE => ?_)
  have hX : bOk cX2_dueIn 4 RX2 d X := hX
  show bV X 0 [some (.ref 29), some (.int p0), none, none] [] w
  obtain ⟨d, rfl⟩ : ∃ e, d = e + 1 := ⟨d - 1, by omega⟩
  unfold f_X2_dueIn at hr
  refine V_iconst hX dX2_dueIn_0 ic_0 ?_
  refine V_istore_n hX dX2_dueIn_1 rfl (Nat.le_of_ble_eq_true rfl) rfl ?_
  refine V_iconst hX dX2_dueIn_2 ic_0 ?_
  refine V_istore_n hX dX2_dueIn_3 rfl (Nat.le_of_ble_eq_true rfl) rfl ?_
  refine V_mask [true, true, true, true] ?_
  exact v_X2_dueIn_4 hd9 hX hE _ _ _ _ _ hr
def f_X2_due_4 : Nat → Int32 → Int32 → Wd → Option (Int32 × Wd)
  | 0, _, _, _ => none
  | n + 1, x1, x2, w => if (w.1 29 4) ≤ x2 then
        (some (x1, w))
      else
        (Option.bind (f_X2_dueIn x2 w) fun q1 =>
        f_X2_due_4 n (x1 ||| q1.1) (x2 + 1) q1.2)
def f_X2_due (w : Wd) : Option (Int32 × Wd) := f_X2_due_4 fu 0 0 w
set_option maxRecDepth 100000 in
set_option maxHeartbeats 4000000 in
theorem v_X2_due_4 {d : Nat} (hd9 : 4 ≤ d) {X : bX} (hX : bOk cX2_due 3 RX2 d X) {r : (Int32 × Wd)} (hE : bEnd (some .int) (some (.int r.1)) r.2 X) : ∀ (n : Nat) (x1 : Int32) (x2 : Int32) (w : Wd), f_X2_due_4 n x1 x2 w = some r → bV X 4 [some (.ref 29), some (.int x1), some (.int x2)] [] w := by
  obtain ⟨d, rfl⟩ : ∃ e, d = e + 1 := ⟨d - 1, by omega⟩
  intro n
  induction n with
  | zero => intro x1 x2 w hr; exact absurd hr (by simp [f_X2_due_4])
  | succ n ih =>
    intro x1 x2 w hr
    rw [f_X2_due_4] at hr
    refine V_iload_n hX dX2_due_4 rfl rfl ?_
    refine V_aload_n hX dX2_due_5 rfl rfl ?_
    refine G_RX2_25 hX dX2_due_6 ?_
    refine V_icmp_ge (tgt := 26) hX dX2_due_9 (by decide) (fun h9 => ?_) (fun h9 => ?_)
    · rw [if_pos h9] at hr
      refine V_iload_n hX dX2_due_26 rfl rfl ?_
      cases hr
      exact V_iret hX hE rfl dX2_due_27
    · rw [if_neg h9] at hr
      refine V_iload_n hX dX2_due_12 rfl rfl ?_
      refine V_aload_n hX dX2_due_13 rfl rfl ?_
      refine V_iload_n hX dX2_due_14 rfl rfl ?_
      obtain ⟨q1, hq1, hr⟩ := bnd hr
      refine C_RX2_50 hX (c_X2_dueIn (by omega) hq1) (Nat.le_of_ble_eq_true rfl) dX2_due_15 ?_
      refine V_ior hX dX2_due_18 ?_
      refine V_istore_n hX dX2_due_19 rfl (Nat.le_of_ble_eq_true rfl) rfl ?_
      refine V_iinc hX dX2_due_20 rfl (ii_1 _) (Nat.le_of_ble_eq_true rfl) rfl ?_
      refine V_goto (tgt := 4) hX dX2_due_23 (by decide) ?_
      refine V_mask [true, true, true] ?_
      exact ih _ _ _ hr
set_option maxRecDepth 100000 in
set_option maxHeartbeats 4000000 in
theorem c_X2_due {d : Nat} (hd9 : 4 ≤ d) {w : Wd} {r : (Int32 × Wd)} (hr : f_X2_due w = some r) : Con d yX2_due cX2_due 3 (some .int) [.ref 29] w (some (.int r.1)) r.2 := by
  refine Con_of (by decide) (Nat.le_of_ble_eq_true rfl) (fun X hX hE => ?_)
  have hX : bOk cX2_due 3 RX2 d X := hX
  show bV X 0 [some (.ref 29), none, none] [] w
  obtain ⟨d, rfl⟩ : ∃ e, d = e + 1 := ⟨d - 1, by omega⟩
  unfold f_X2_due at hr
  refine V_iconst hX dX2_due_0 ic_0 ?_
  refine V_istore_n hX dX2_due_1 rfl (Nat.le_of_ble_eq_true rfl) rfl ?_
  refine V_iconst hX dX2_due_2 ic_0 ?_
  refine V_istore_n hX dX2_due_3 rfl (Nat.le_of_ble_eq_true rfl) rfl ?_
  refine V_mask [true, true, true] ?_
  exact v_X2_due_4 hd9 hX hE _ _ _ _ hr
def f_X2_bestSun_22 : Nat → Int32 → Int32 → Int32 → Int32 → Wd → Option (Int32 × Wd)
  | 0, _, _, _, _, _ => none
  | n + 1, x1, x2, x3, x4, w => if 8 ≤ x4 then
        (if x3 ≤ x2 then
          (some (0, w))
        else
          (some (1, w)))
      else
        (Option.bind (f_X9_has x1 x4 w) fun q1 =>
        if q1.1 = 0 then
          (f_X2_bestSun_22 n x1 x2 x3 (x4 + 1) q1.2)
        else
          (Option.bind (f_X0_part x4 2 q1.2) fun q2 =>
          if q2.1 = 1 then
            (f_X2_bestSun_22 n x1 (x2 + 1) x3 (x4 + 1) q2.2)
          else
            (f_X2_bestSun_22 n x1 x2 (x3 + 1) (x4 + 1) q2.2)))
def f_X2_bestSun (w : Wd) : Option (Int32 × Wd) := Option.bind (f_X0_toldBundles w) fun q1 =>
    Option.bind (f_X2_due q1.2) fun q2 =>
    f_X2_bestSun_22 fu (q1.1 &&& (q2.1 ^^^ (-1))) 0 0 0 q2.2
set_option maxRecDepth 100000 in
set_option maxHeartbeats 4000000 in
theorem v_X2_bestSun_22 {d : Nat} (hd9 : 5 ≤ d) {X : bX} (hX : bOk cX2_bestSun 5 RX2 d X) {r : (Int32 × Wd)} (hE : bEnd (some .int) (some (.int r.1)) r.2 X) : ∀ (n : Nat) (x1 : Int32) (x2 : Int32) (x3 : Int32) (x4 : Int32) (w : Wd), f_X2_bestSun_22 n x1 x2 x3 x4 w = some r → bV X 22 [some (.ref 29), some (.int x1), some (.int x2), some (.int x3), some (.int x4)] [] w := by
  obtain ⟨d, rfl⟩ : ∃ e, d = e + 1 := ⟨d - 1, by omega⟩
  intro n
  induction n with
  | zero => intro x1 x2 x3 x4 w hr; exact absurd hr (by simp [f_X2_bestSun_22])
  | succ n ih =>
    intro x1 x2 x3 x4 w hr
    rw [f_X2_bestSun_22] at hr
    refine V_iload hX dX2_bestSun_22 rfl ?_
    refine V_bipush hX dX2_bestSun_24 bp_8 ?_
    refine V_icmp_ge (tgt := 67) hX dX2_bestSun_26 (by decide) (fun h26 => ?_) (fun h26 => ?_)
    · rw [if_pos h26] at hr
      refine V_iload_n hX dX2_bestSun_67 rfl rfl ?_
      refine V_iload_n hX dX2_bestSun_68 rfl rfl ?_
      refine V_icmp_le (tgt := 76) hX dX2_bestSun_69 (by decide) (fun h69 => ?_) (fun h69 => ?_)
      · rw [if_pos h69] at hr
        refine V_iconst hX dX2_bestSun_76 ic_0 ?_
        cases hr
        exact V_iret hX hE rfl dX2_bestSun_77
      · rw [if_neg h69] at hr
        refine V_iconst hX dX2_bestSun_72 ic_1 ?_
        refine V_goto (tgt := 77) hX dX2_bestSun_73 (by decide) ?_
        cases hr
        exact V_iret hX hE rfl dX2_bestSun_77
    · rw [if_neg h26] at hr
      refine V_iload_n hX dX2_bestSun_29 rfl rfl ?_
      refine V_iload hX dX2_bestSun_30 rfl ?_
      obtain ⟨q1, hq1, hr⟩ := bnd hr
      refine C_RX2_65 hX (c_X9_has (by omega) hq1) (Nat.le_of_ble_eq_true rfl) dX2_bestSun_32 ?_
      refine V_if_eq (tgt := 61) hX dX2_bestSun_35 (by decide) (fun h35 => ?_) (fun h35 => ?_)
      · rw [if_pos h35] at hr
        refine V_iinc hX dX2_bestSun_61 rfl (ii_1 _) (Nat.le_of_ble_eq_true rfl) rfl ?_
        refine V_goto (tgt := 22) hX dX2_bestSun_64 (by decide) ?_
        refine V_mask [true, true, true, true, true] ?_
        exact ih _ _ _ _ _ hr
      · rw [if_neg h35] at hr
        refine V_aload_n hX dX2_bestSun_38 rfl rfl ?_
        refine G_RX2_21 hX dX2_bestSun_39 ?_
        refine V_iload hX dX2_bestSun_42 rfl ?_
        refine V_iconst hX dX2_bestSun_44 ic_2 ?_
        obtain ⟨q2, hq2, hr⟩ := bnd hr
        refine C_RX2_33 hX (c_X0_part (by omega) hq2) (Nat.le_of_ble_eq_true rfl) dX2_bestSun_45 ?_
        refine V_iconst hX dX2_bestSun_48 ic_1 ?_
        refine V_icmp_ne (tgt := 58) hX dX2_bestSun_49 (by decide) (fun h49 => ?_) (fun h49 => ?_)
        · rw [if_neg h49] at hr
          refine V_iinc hX dX2_bestSun_58 rfl (ii_1 _) (Nat.le_of_ble_eq_true rfl) rfl ?_
          refine V_iinc hX dX2_bestSun_61 rfl (ii_1 _) (Nat.le_of_ble_eq_true rfl) rfl ?_
          refine V_goto (tgt := 22) hX dX2_bestSun_64 (by decide) ?_
          refine V_mask [true, true, true, true, true] ?_
          exact ih _ _ _ _ _ hr
        · rw [if_pos h49] at hr
          refine V_iinc hX dX2_bestSun_52 rfl (ii_1 _) (Nat.le_of_ble_eq_true rfl) rfl ?_
          refine V_goto (tgt := 61) hX dX2_bestSun_55 (by decide) ?_
          refine V_iinc hX dX2_bestSun_61 rfl (ii_1 _) (Nat.le_of_ble_eq_true rfl) rfl ?_
          refine V_goto (tgt := 22) hX dX2_bestSun_64 (by decide) ?_
          refine V_mask [true, true, true, true, true] ?_
          exact ih _ _ _ _ _ hr
set_option maxRecDepth 100000 in
set_option maxHeartbeats 4000000 in
theorem c_X2_bestSun {d : Nat} (hd9 : 5 ≤ d) {w : Wd} {r : (Int32 × Wd)} (hr : f_X2_bestSun w = some r) : Con d yX2_bestSun cX2_bestSun 5 (some .int) [.ref 29] w (some (.int r.1)) r.2 := by
  refine Con_of (by decide) (Nat.le_of_ble_eq_true rfl) (fun X hX hE => ?_)
  have hX : bOk cX2_bestSun 5 RX2 d X := hX
  show bV X 0 [some (.ref 29), none, none, none, none] [] w
  obtain ⟨d, rfl⟩ : ∃ e, d = e + 1 := ⟨d - 1, by omega⟩
  unfold f_X2_bestSun at hr
  refine V_aload_n hX dX2_bestSun_0 rfl rfl ?_
  refine G_RX2_21 hX dX2_bestSun_1 ?_
  obtain ⟨q1, hq1, hr⟩ := bnd hr
  refine C_RX2_62 hX (c_X0_toldBundles (by omega) hq1) (Nat.le_of_ble_eq_true rfl) dX2_bestSun_4 ?_
  refine V_aload_n hX dX2_bestSun_7 rfl rfl ?_
  obtain ⟨q2, hq2, hr⟩ := bnd hr
  refine C_RX2_43 hX (c_X2_due (by omega) hq2) (Nat.le_of_ble_eq_true rfl) dX2_bestSun_8 ?_
  refine V_iconst hX dX2_bestSun_11 ic_m1 ?_
  refine V_ixor hX dX2_bestSun_12 ?_
  refine V_iand hX dX2_bestSun_13 ?_
  refine V_istore_n hX dX2_bestSun_14 rfl (Nat.le_of_ble_eq_true rfl) rfl ?_
  refine V_iconst hX dX2_bestSun_15 ic_0 ?_
  refine V_istore_n hX dX2_bestSun_16 rfl (Nat.le_of_ble_eq_true rfl) rfl ?_
  refine V_iconst hX dX2_bestSun_17 ic_0 ?_
  refine V_istore_n hX dX2_bestSun_18 rfl (Nat.le_of_ble_eq_true rfl) rfl ?_
  refine V_iconst hX dX2_bestSun_19 ic_0 ?_
  refine V_istore hX dX2_bestSun_20 (Nat.le_of_ble_eq_true rfl) rfl ?_
  refine V_mask [true, true, true, true, true] ?_
  exact v_X2_bestSun_22 hd9 hX hE _ _ _ _ _ _ hr
def f_X2_standing_4 : Nat → Int32 → Int32 → Wd → Option (Int32 × Wd)
  | 0, _, _, _ => none
  | n + 1, x1, x2, w => if (w.1 29 4) ≤ x2 then
        (some (x1, w))
      else
        (Option.bind (f_X2_dueIn x2 w) fun q1 =>
        Option.bind (f_X9_at 32 x2 q1.2) fun q2 =>
        f_X2_standing_4 n (x1 ||| (q1.1 &&& q2.1)) (x2 + 1) q2.2)
def f_X2_standing (w : Wd) : Option (Int32 × Wd) := f_X2_standing_4 fu 0 0 w
set_option maxRecDepth 100000 in
set_option maxHeartbeats 4000000 in
theorem v_X2_standing_4 {d : Nat} (hd9 : 4 ≤ d) {X : bX} (hX : bOk cX2_standing 3 RX2 d X) {r : (Int32 × Wd)} (hE : bEnd (some .int) (some (.int r.1)) r.2 X) : ∀ (n : Nat) (x1 : Int32) (x2 : Int32) (w : Wd), f_X2_standing_4 n x1 x2 w = some r → bV X 4 [some (.ref 29), some (.int x1), some (.int x2)] [] w := by
  obtain ⟨d, rfl⟩ : ∃ e, d = e + 1 := ⟨d - 1, by omega⟩
  intro n
  induction n with
  | zero => intro x1 x2 w hr; exact absurd hr (by simp [f_X2_standing_4])
  | succ n ih =>
    intro x1 x2 w hr
    rw [f_X2_standing_4] at hr
    refine V_iload_n hX dX2_standing_4 rfl rfl ?_
    refine V_aload_n hX dX2_standing_5 rfl rfl ?_
    refine G_RX2_25 hX dX2_standing_6 ?_
    refine V_icmp_ge (tgt := 35) hX dX2_standing_9 (by decide) (fun h9 => ?_) (fun h9 => ?_)
    · rw [if_pos h9] at hr
      refine V_iload_n hX dX2_standing_35 rfl rfl ?_
      cases hr
      exact V_iret hX hE rfl dX2_standing_36
    · rw [if_neg h9] at hr
      refine V_iload_n hX dX2_standing_12 rfl rfl ?_
      refine V_aload_n hX dX2_standing_13 rfl rfl ?_
      refine V_iload_n hX dX2_standing_14 rfl rfl ?_
      obtain ⟨q1, hq1, hr⟩ := bnd hr
      refine C_RX2_50 hX (c_X2_dueIn (by omega) hq1) (Nat.le_of_ble_eq_true rfl) dX2_standing_15 ?_
      refine V_aload_n hX dX2_standing_18 rfl rfl ?_
      refine G_RX2_18 hX dX2_standing_19 ?_
      refine V_iload_n hX dX2_standing_22 rfl rfl ?_
      obtain ⟨q2, hq2, hr⟩ := bnd hr
      refine C_RX2_39 hX (c_X9_at (by omega) hq2) (Nat.le_of_ble_eq_true rfl) dX2_standing_23 ?_
      refine V_iand hX dX2_standing_26 ?_
      refine V_ior hX dX2_standing_27 ?_
      refine V_istore_n hX dX2_standing_28 rfl (Nat.le_of_ble_eq_true rfl) rfl ?_
      refine V_iinc hX dX2_standing_29 rfl (ii_1 _) (Nat.le_of_ble_eq_true rfl) rfl ?_
      refine V_goto (tgt := 4) hX dX2_standing_32 (by decide) ?_
      refine V_mask [true, true, true] ?_
      exact ih _ _ _ hr
set_option maxRecDepth 100000 in
set_option maxHeartbeats 4000000 in
theorem c_X2_standing {d : Nat} (hd9 : 4 ≤ d) {w : Wd} {r : (Int32 × Wd)} (hr : f_X2_standing w = some r) : Con d yX2_standing cX2_standing 3 (some .int) [.ref 29] w (some (.int r.1)) r.2 := by
  refine Con_of (by decide) (Nat.le_of_ble_eq_true rfl) (fun X hX hE => ?_)
  have hX : bOk cX2_standing 3 RX2 d X := hX
  show bV X 0 [some (.ref 29), none, none] [] w
  obtain ⟨d, rfl⟩ : ∃ e, d = e + 1 := ⟨d - 1, by omega⟩
  unfold f_X2_standing at hr
  refine V_iconst hX dX2_standing_0 ic_0 ?_
  refine V_istore_n hX dX2_standing_1 rfl (Nat.le_of_ble_eq_true rfl) rfl ?_
  refine V_iconst hX dX2_standing_2 ic_0 ?_
  refine V_istore_n hX dX2_standing_3 rfl (Nat.le_of_ble_eq_true rfl) rfl ?_
  refine V_mask [true, true, true] ?_
  exact v_X2_standing_4 hd9 hX hE _ _ _ _ hr
def f_X2_flat (w : Wd) : Option (Int32 × Wd) := Option.bind (f_X2_due w) fun q1 =>
    Option.bind (f_X2_standing q1.2) fun q2 =>
    some ((q1.1 &&& (q2.1 ^^^ (-1))), q2.2)
set_option maxRecDepth 100000 in
set_option maxHeartbeats 4000000 in
theorem c_X2_flat {d : Nat} (hd9 : 5 ≤ d) {w : Wd} {r : (Int32 × Wd)} (hr : f_X2_flat w = some r) : Con d yX2_flat cX2_flat 1 (some .int) [.ref 29] w (some (.int r.1)) r.2 := by
  refine Con_of (by decide) (Nat.le_of_ble_eq_true rfl) (fun X hX hE => ?_)
  have hX : bOk cX2_flat 1 RX2 d X := hX
  show bV X 0 [some (.ref 29)] [] w
  obtain ⟨d, rfl⟩ : ∃ e, d = e + 1 := ⟨d - 1, by omega⟩
  unfold f_X2_flat at hr
  refine V_aload_n hX dX2_flat_0 rfl rfl ?_
  obtain ⟨q1, hq1, hr⟩ := bnd hr
  refine C_RX2_43 hX (c_X2_due (by omega) hq1) (Nat.le_of_ble_eq_true rfl) dX2_flat_1 ?_
  refine V_aload_n hX dX2_flat_4 rfl rfl ?_
  obtain ⟨q2, hq2, hr⟩ := bnd hr
  refine C_RX2_47 hX (c_X2_standing (by omega) hq2) (Nat.le_of_ble_eq_true rfl) dX2_flat_5 ?_
  refine V_iconst hX dX2_flat_8 ic_m1 ?_
  refine V_ixor hX dX2_flat_9 ?_
  refine V_iand hX dX2_flat_10 ?_
  cases hr
  exact V_iret hX hE rfl dX2_flat_11
