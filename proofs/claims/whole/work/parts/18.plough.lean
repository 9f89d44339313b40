def f_X3_yearOfLoss_58 (k8 : Int32 → Int32 → Int32 → Int32 → Wd → Option (Int32 × Wd)) (s0 : Int32) (s1 : Int32) (x1 : Int32) (x2 : Int32) (x4 : Int32) (w : Wd) : Option (Int32 × Wd) := k8 x1 x2 (jmin s0 s1) (x4 + 1) w
def f_X3_yearOfLoss_8 : Nat → Int32 → Int32 → Int32 → Int32 → Wd → Option (Int32 × Wd)
  | 0, _, _, _, _, _ => none
  | n + 1, x1, x2, x3, x4, w => if 14 ≤ x4 then
        (some (x3, w))
      else
        (Option.bind (f_X0_rightUnder x4 w) fun q1 =>
        Option.bind (f_X9_has q1.1 x1 q1.2) fun q2 =>
        if q2.1 = 0 then
          (f_X3_yearOfLoss_8 n x1 x2 x3 (x4 + 1) q2.2)
        else
          (if x2 = 1 then
            (Option.bind (f_X8_latestOf x4 q2.2) fun q3 =>
            f_X3_yearOfLoss_58 (f_X3_yearOfLoss_8 n) x3 q3.1 x1 x2 x4 q3.2)
          else
            (Option.bind (f_X8_earliestOf x4 q2.2) fun q3 =>
            f_X3_yearOfLoss_58 (f_X3_yearOfLoss_8 n) x3 q3.1 x1 x2 x4 q3.2)))
def f_X3_yearOfLoss (p0 : Int32) (p1 : Int32) (w : Wd) : Option (Int32 × Wd) := f_X3_yearOfLoss_8 fu p0 p1 2001 8 w
set_option maxRecDepth 100000 in
set_option maxHeartbeats 4000000 in
theorem v_X3_yearOfLoss_58 {d : Nat} (hd9 : 2 ≤ d) {X : bX} (hX : bOk cX3_yearOfLoss 5 RX3 d X) {r : (Int32 × Wd)} (hE : bEnd (some .int) (some (.int r.1)) r.2 X) {k8 : Int32 → Int32 → Int32 → Int32 → Wd → Option (Int32 × Wd)} (hk8 : ∀ (x1 : Int32) (x2 : Int32) (x3 : Int32) (x4 : Int32) (w : Wd), k8 x1 x2 x3 x4 w = some r → bV X 8 [some (.ref 19), some (.int x1), some (.int x2), some (.int x3), some (.int x4)] [] w) : ∀ (s0 : Int32) (s1 : Int32) (x1 : Int32) (x2 : Int32) (x4 : Int32) (w : Wd), f_X3_yearOfLoss_58 k8 s0 s1 x1 x2 x4 w = some r → bV X 58 [some (.ref 19), some (.int x1), some (.int x2), none, some (.int x4)] [.int s1, .int s0] w := by
  intro s0 s1 x1 x2 x4 w hr
  obtain ⟨d, rfl⟩ : ∃ e, d = e + 1 := ⟨d - 1, by omega⟩
  unfold f_X3_yearOfLoss_58 at hr
  refine V_mmin hX mt_RX3_52 (by omega) (Nat.le_of_ble_eq_true rfl) dX3_yearOfLoss_58 ?_
  refine V_istore_n hX dX3_yearOfLoss_61 rfl (Nat.le_of_ble_eq_true rfl) rfl ?_
  refine V_iinc hX dX3_yearOfLoss_62 rfl (ii_1 _) (Nat.le_of_ble_eq_true rfl) rfl ?_
  refine V_goto (tgt := 8) hX dX3_yearOfLoss_65 (by decide) ?_
  refine V_mask [true, true, true, true, true] ?_
  exact hk8 _ _ _ _ _ hr
set_option maxRecDepth 100000 in
set_option maxHeartbeats 4000000 in
theorem v_X3_yearOfLoss_8 {d : Nat} (hd9 : 2 ≤ d) {X : bX} (hX : bOk cX3_yearOfLoss 5 RX3 d X) {r : (Int32 × Wd)} (hE : bEnd (some .int) (some (.int r.1)) r.2 X) : ∀ (n : Nat) (x1 : Int32) (x2 : Int32) (x3 : Int32) (x4 : Int32) (w : Wd), f_X3_yearOfLoss_8 n x1 x2 x3 x4 w = some r → bV X 8 [some (.ref 19), some (.int x1), some (.int x2), some (.int x3), some (.int x4)] [] w := by
  obtain ⟨d, rfl⟩ : ∃ e, d = e + 1 := ⟨d - 1, by omega⟩
  intro n
  induction n with
  | zero => intro x1 x2 x3 x4 w hr; exact absurd hr (by simp [f_X3_yearOfLoss_8])
  | succ n ih =>
    intro x1 x2 x3 x4 w hr
    rw [f_X3_yearOfLoss_8] at hr
    refine V_iload hX dX3_yearOfLoss_8 rfl ?_
    refine V_bipush hX dX3_yearOfLoss_10 bp_14 ?_
    refine V_icmp_ge (tgt := 68) hX dX3_yearOfLoss_12 (by decide) (fun h12 => ?_) (fun h12 => ?_)
    · rw [if_pos h12] at hr
      refine V_iload_n hX dX3_yearOfLoss_68 rfl rfl ?_
      cases hr
      exact V_iret hX hE rfl dX3_yearOfLoss_69
    · rw [if_neg h12] at hr
      refine V_aload_n hX dX3_yearOfLoss_15 rfl rfl ?_
      refine G_RX3_9 hX dX3_yearOfLoss_16 ?_
      refine V_iload hX dX3_yearOfLoss_19 rfl ?_
      obtain ⟨q1, hq1, hr⟩ := bnd hr
      refine C_RX3_45 hX (c_X0_rightUnder (by omega) hq1) (Nat.le_of_ble_eq_true rfl) dX3_yearOfLoss_21 ?_
      refine V_iload_n hX dX3_yearOfLoss_24 rfl rfl ?_
      obtain ⟨q2, hq2, hr⟩ := bnd hr
      refine C_RX3_48 hX (c_X9_has (by omega) hq2) (Nat.le_of_ble_eq_true rfl) dX3_yearOfLoss_25 ?_
      refine V_if_eq (tgt := 62) hX dX3_yearOfLoss_28 (by decide) (fun h28 => ?_) (fun h28 => ?_)
      · rw [if_pos h28] at hr
        refine V_iinc hX dX3_yearOfLoss_62 rfl (ii_1 _) (Nat.le_of_ble_eq_true rfl) rfl ?_
        refine V_goto (tgt := 8) hX dX3_yearOfLoss_65 (by decide) ?_
        refine V_mask [true, true, true, true, true] ?_
        exact ih _ _ _ _ _ hr
      · rw [if_neg h28] at hr
        refine V_iload_n hX dX3_yearOfLoss_31 rfl rfl ?_
        refine V_iload_n hX dX3_yearOfLoss_32 rfl rfl ?_
        refine V_iconst hX dX3_yearOfLoss_33 ic_1 ?_
        refine V_icmp_ne (tgt := 49) hX dX3_yearOfLoss_34 (by decide) (fun h34 => ?_) (fun h34 => ?_)
        · rw [if_neg h34] at hr
          refine V_aload_n hX dX3_yearOfLoss_49 rfl rfl ?_
          refine G_RX3_15 hX dX3_yearOfLoss_50 ?_
          refine V_iload hX dX3_yearOfLoss_53 rfl ?_
          obtain ⟨q3, hq3, hr⟩ := bnd hr
          refine C_RX3_33 hX (c_X8_earliestOf (by omega) hq3) (Nat.le_of_ble_eq_true rfl) dX3_yearOfLoss_55 ?_
          refine V_mask [true, true, true, false, true] ?_
          exact v_X3_yearOfLoss_58 hd9 hX hE ih _ _ _ _ _ _ hr
        · rw [if_pos h34] at hr
          refine V_aload_n hX dX3_yearOfLoss_37 rfl rfl ?_
          refine G_RX3_15 hX dX3_yearOfLoss_38 ?_
          refine V_iload hX dX3_yearOfLoss_41 rfl ?_
          obtain ⟨q3, hq3, hr⟩ := bnd hr
          refine C_RX3_38 hX (c_X8_latestOf (by omega) hq3) (Nat.le_of_ble_eq_true rfl) dX3_yearOfLoss_43 ?_
          refine V_goto (tgt := 58) hX dX3_yearOfLoss_46 (by decide) ?_
          refine V_mask [true, true, true, false, true] ?_
          exact v_X3_yearOfLoss_58 hd9 hX hE ih _ _ _ _ _ _ hr
set_option maxRecDepth 100000 in
set_option maxHeartbeats 4000000 in
theorem c_X3_yearOfLoss {d : Nat} (hd9 : 2 ≤ d) {p0 : Int32} {p1 : Int32} {w : Wd} {r : (Int32 × Wd)} (hr : f_X3_yearOfLoss p0 p1 w = some r) : Con d yX3_yearOfLoss cX3_yearOfLoss 5 (some .int) [.ref 19, .int p0, .int p1] w (some (.int r.1)) r.2 := by
  refine Con_of (by decide) (Nat.le_of_ble_eq_true rfl) (fun X hX hE => ?_)
  have hX : bOk cX3_yearOfLoss 5 RX3 d X := hX
  show bV X 0 [some (.ref 19), some (.int p0), some (.int p1), none, none] [] w
  obtain ⟨d, rfl⟩ : ∃ e, d = e + 1 := ⟨d - 1, by omega⟩
  unfold f_X3_yearOfLoss at hr
  refine V_sipush hX dX3_yearOfLoss_0 sp_2001 ?_
  refine V_istore_n hX dX3_yearOfLoss_3 rfl (Nat.le_of_ble_eq_true rfl) rfl ?_
  refine V_bipush hX dX3_yearOfLoss_4 bp_8 ?_
  refine V_istore hX dX3_yearOfLoss_6 (Nat.le_of_ble_eq_true rfl) rfl ?_
  refine V_mask [true, true, true, true, true] ?_
  exact v_X3_yearOfLoss_8 hd9 hX hE _ _ _ _ _ _ hr
def f_X3_isPloughed_24 (s0 : Int32) (x1 : Int32) (x2 : Int32) (x3 : Int32) (w : Wd) : Option (Int32 × Wd) := if x2 < s0 then
      (some (0, w))
    else
      (Option.bind (f_X3_yearOfLoss x1 x3 w) fun q1 =>
      if q1.1 ≤ x2 then
        (some (0, q1.2))
      else
        (some (1, q1.2)))
def f_X3_isPloughed (p0 : Int32) (p1 : Int32) (p2 : Int32) (w : Wd) : Option (Int32 × Wd) := if p2 = 1 then
      (Option.bind (f_X8_earliestOf p0 w) fun q1 =>
      f_X3_isPloughed_24 q1.1 p0 p1 p2 q1.2)
    else
      (Option.bind (f_X8_latestOf p0 w) fun q1 =>
      f_X3_isPloughed_24 q1.1 p0 p1 p2 q1.2)
set_option maxRecDepth 100000 in
set_option maxHeartbeats 4000000 in
theorem v_X3_isPloughed_24 {d : Nat} (hd9 : 3 ≤ d) {X : bX} (hX : bOk cX3_isPloughed 5 RX3 d X) {r : (Int32 × Wd)} (hE : bEnd (some .boolean) (some (.int r.1)) r.2 X) : ∀ (s0 : Int32) (x1 : Int32) (x2 : Int32) (x3 : Int32) (w : Wd), f_X3_isPloughed_24 s0 x1 x2 x3 w = some r → bV X 24 [some (.ref 19), some (.int x1), some (.int x2), some (.int x3), none] [.int s0] w := by
  intro s0 x1 x2 x3 w hr
  obtain ⟨d, rfl⟩ : ∃ e, d = e + 1 := ⟨d - 1, by omega⟩
  unfold f_X3_isPloughed_24 at hr
  refine V_istore hX dX3_isPloughed_24 (Nat.le_of_ble_eq_true rfl) rfl ?_
  refine V_iload hX dX3_isPloughed_26 rfl ?_
  refine V_iload_n hX dX3_isPloughed_28 rfl rfl ?_
  refine V_icmp_gt (tgt := 46) hX dX3_isPloughed_29 (by decide) (fun h29 => ?_) (fun h29 => ?_)
  · rw [if_pos h29] at hr
    refine V_iconst hX dX3_isPloughed_46 ic_0 ?_
    cases hr
    exact V_iret hX hE rfl dX3_isPloughed_47
  · rw [if_neg h29] at hr
    refine V_iload_n hX dX3_isPloughed_32 rfl rfl ?_
    refine V_aload_n hX dX3_isPloughed_33 rfl rfl ?_
    refine V_iload_n hX dX3_isPloughed_34 rfl rfl ?_
    refine V_iload_n hX dX3_isPloughed_35 rfl rfl ?_
    obtain ⟨q1, hq1, hr⟩ := bnd hr
    refine C_RX3_41 hX (c_X3_yearOfLoss (by omega) hq1) (Nat.le_of_ble_eq_true rfl) dX3_isPloughed_36 ?_
    refine V_icmp_ge (tgt := 46) hX dX3_isPloughed_39 (by decide) (fun h39 => ?_) (fun h39 => ?_)
    · rw [if_pos h39] at hr
      refine V_iconst hX dX3_isPloughed_46 ic_0 ?_
      cases hr
      exact V_iret hX hE rfl dX3_isPloughed_47
    · rw [if_neg h39] at hr
      refine V_iconst hX dX3_isPloughed_42 ic_1 ?_
      refine V_goto (tgt := 47) hX dX3_isPloughed_43 (by decide) ?_
      cases hr
      exact V_iret hX hE rfl dX3_isPloughed_47
set_option maxRecDepth 100000 in
set_option maxHeartbeats 4000000 in
theorem c_X3_isPloughed {d : Nat} (hd9 : 3 ≤ d) {p0 : Int32} {p1 : Int32} {p2 : Int32} {w : Wd} {r : (Int32 × Wd)} (hr : f_X3_isPloughed p0 p1 p2 w = some r) : Con d yX3_isPloughed cX3_isPloughed 5 (some .boolean) [.ref 19, .int p0, .int p1, .int p2] w (some (.int r.1)) r.2 := by
  refine Con_of (by decide) (Nat.le_of_ble_eq_true rfl) (fun X hX hE => ?_)
  have hX : bOk cX3_isPloughed 5 RX3 d X := hX
  show bV X 0 [some (.ref 19), some (.int p0), some (.int p1), some (.int p2), none] [] w
  obtain ⟨d, rfl⟩ : ∃ e, d = e + 1 := ⟨d - 1, by omega⟩
  unfold f_X3_isPloughed at hr
  refine V_iload_n hX dX3_isPloughed_0 rfl rfl ?_
  refine V_iconst hX dX3_isPloughed_1 ic_1 ?_
  refine V_icmp_ne (tgt := 16) hX dX3_isPloughed_2 (by decide) (fun h2 => ?_) (fun h2 => ?_)
  · rw [if_neg h2] at hr
    refine V_aload_n hX dX3_isPloughed_16 rfl rfl ?_
    refine G_RX3_15 hX dX3_isPloughed_17 ?_
    refine V_iload_n hX dX3_isPloughed_20 rfl rfl ?_
    obtain ⟨q1, hq1, hr⟩ := bnd hr
    refine C_RX3_38 hX (c_X8_latestOf (by omega) hq1) (Nat.le_of_ble_eq_true rfl) dX3_isPloughed_21 ?_
    refine V_mask [true, true, true, true, false] ?_
    exact v_X3_isPloughed_24 hd9 hX hE _ _ _ _ _ hr
  · rw [if_pos h2] at hr
    refine V_aload_n hX dX3_isPloughed_5 rfl rfl ?_
    refine G_RX3_15 hX dX3_isPloughed_6 ?_
    refine V_iload_n hX dX3_isPloughed_9 rfl rfl ?_
    obtain ⟨q1, hq1, hr⟩ := bnd hr
    refine C_RX3_33 hX (c_X8_earliestOf (by omega) hq1) (Nat.le_of_ble_eq_true rfl) dX3_isPloughed_10 ?_
    refine V_goto (tgt := 24) hX dX3_isPloughed_13 (by decide) ?_
    refine V_mask [true, true, true, true, false] ?_
    exact v_X3_isPloughed_24 hd9 hX hE _ _ _ _ _ hr
def f_X3_yardsIn_5 : Nat → Int32 → Int32 → Int32 → Int32 → Wd → Option (Int32 × Wd)
  | 0, _, _, _, _, _ => none
  | n + 1, x1, x2, x3, x4, w => if 8 ≤ x4 then
        (some (x3, w))
      else
        (Option.bind (f_X0_isBundle x4 w) fun q1 =>
        if q1.1 = 0 then
          (f_X3_yardsIn_5 n x1 x2 x3 (x4 + 1) q1.2)
        else
          (Option.bind (f_X3_isPloughed x4 x1 x2 q1.2) fun q2 =>
          if q2.1 = 0 then
            (f_X3_yardsIn_5 n x1 x2 x3 (x4 + 1) q2.2)
          else
            (Option.bind (f_X0_yards x4 q2.2) fun q3 =>
            f_X3_yardsIn_5 n x1 x2 (x3 + q3.1) (x4 + 1) q3.2)))
def f_X3_yardsIn (p0 : Int32) (p1 : Int32) (w : Wd) : Option (Int32 × Wd) := f_X3_yardsIn_5 fu p0 p1 0 0 w
set_option maxRecDepth 100000 in
set_option maxHeartbeats 4000000 in
theorem v_X3_yardsIn_5 {d : Nat} (hd9 : 4 ≤ d) {X : bX} (hX : bOk cX3_yardsIn 5 RX3 d X) {r : (Int32 × Wd)} (hE : bEnd (some .int) (some (.int r.1)) r.2 X) : ∀ (n : Nat) (x1 : Int32) (x2 : Int32) (x3 : Int32) (x4 : Int32) (w : Wd), f_X3_yardsIn_5 n x1 x2 x3 x4 w = some r → bV X 5 [some (.ref 19), some (.int x1), some (.int x2), some (.int x3), some (.int x4)] [] w := by
  obtain ⟨d, rfl⟩ : ∃ e, d = e + 1 := ⟨d - 1, by omega⟩
  intro n
  induction n with
  | zero => intro x1 x2 x3 x4 w hr; exact absurd hr (by simp [f_X3_yardsIn_5])
  | succ n ih =>
    intro x1 x2 x3 x4 w hr
    rw [f_X3_yardsIn_5] at hr
    refine V_iload hX dX3_yardsIn_5 rfl ?_
    refine V_bipush hX dX3_yardsIn_7 bp_8 ?_
    refine V_icmp_ge (tgt := 53) hX dX3_yardsIn_9 (by decide) (fun h9 => ?_) (fun h9 => ?_)
    · rw [if_pos h9] at hr
      refine V_iload_n hX dX3_yardsIn_53 rfl rfl ?_
      cases hr
      exact V_iret hX hE rfl dX3_yardsIn_54
    · rw [if_neg h9] at hr
      refine V_aload_n hX dX3_yardsIn_12 rfl rfl ?_
      refine G_RX3_9 hX dX3_yardsIn_13 ?_
      refine V_iload hX dX3_yardsIn_16 rfl ?_
      obtain ⟨q1, hq1, hr⟩ := bnd hr
      refine C_RX3_19 hX (c_X0_isBundle (by omega) hq1) (Nat.le_of_ble_eq_true rfl) dX3_yardsIn_18 ?_
      refine V_if_eq (tgt := 47) hX dX3_yardsIn_21 (by decide) (fun h21 => ?_) (fun h21 => ?_)
      · rw [if_pos h21] at hr
        refine V_iinc hX dX3_yardsIn_47 rfl (ii_1 _) (Nat.le_of_ble_eq_true rfl) rfl ?_
        refine V_goto (tgt := 5) hX dX3_yardsIn_50 (by decide) ?_
        refine V_mask [true, true, true, true, true] ?_
        exact ih _ _ _ _ _ hr
      · rw [if_neg h21] at hr
        refine V_aload_n hX dX3_yardsIn_24 rfl rfl ?_
        refine V_iload hX dX3_yardsIn_25 rfl ?_
        refine V_iload_n hX dX3_yardsIn_27 rfl rfl ?_
        refine V_iload_n hX dX3_yardsIn_28 rfl rfl ?_
        obtain ⟨q2, hq2, hr⟩ := bnd hr
        refine C_RX3_25 hX (c_X3_isPloughed (by omega) hq2) (Nat.le_of_ble_eq_true rfl) dX3_yardsIn_29 ?_
        refine V_if_eq (tgt := 47) hX dX3_yardsIn_32 (by decide) (fun h32 => ?_) (fun h32 => ?_)
        · rw [if_pos h32] at hr
          refine V_iinc hX dX3_yardsIn_47 rfl (ii_1 _) (Nat.le_of_ble_eq_true rfl) rfl ?_
          refine V_goto (tgt := 5) hX dX3_yardsIn_50 (by decide) ?_
          refine V_mask [true, true, true, true, true] ?_
          exact ih _ _ _ _ _ hr
        · rw [if_neg h32] at hr
          refine V_iload_n hX dX3_yardsIn_35 rfl rfl ?_
          refine V_aload_n hX dX3_yardsIn_36 rfl rfl ?_
          refine G_RX3_9 hX dX3_yardsIn_37 ?_
          refine V_iload hX dX3_yardsIn_40 rfl ?_
          obtain ⟨q3, hq3, hr⟩ := bnd hr
          refine C_RX3_29 hX (c_X0_yards (by omega) hq3) (Nat.le_of_ble_eq_true rfl) dX3_yardsIn_42 ?_
          refine V_iadd hX dX3_yardsIn_45 ?_
          refine V_istore_n hX dX3_yardsIn_46 rfl (Nat.le_of_ble_eq_true rfl) rfl ?_
          refine V_iinc hX dX3_yardsIn_47 rfl (ii_1 _) (Nat.le_of_ble_eq_true rfl) rfl ?_
          refine V_goto (tgt := 5) hX dX3_yardsIn_50 (by decide) ?_
          refine V_mask [true, true, true, true, true] ?_
          exact ih _ _ _ _ _ hr
set_option maxRecDepth 100000 in
set_option maxHeartbeats 4000000 in
theorem c_X3_yardsIn {d : Nat} (hd9 : 4 ≤ d) {p0 : Int32} {p1 : Int32} {w : Wd} {r : (Int32 × Wd)} (hr : f_X3_yardsIn p0 p1 w = some r) : Con d yX3_yardsIn cX3_yardsIn 5 (some .int) [.ref 19, .int p0, .int p1] w (some (.int r.1)) r.2 := by
  refine Con_of (by decide) (Nat.le_of_ble_eq_true rfl) (fun X hX hE => ?_)
  have hX : bOk cX3_yardsIn 5 RX3 d X := hX
  show bV X 0 [some (.ref 19), some (.int p0), some (.int p1), none, none] [] w
  obtain ⟨d, rfl⟩ : ∃ e, d = e + 1 := ⟨d - 1, by omega⟩
  unfold f_X3_yardsIn at hr
  refine V_iconst hX dX3_yardsIn_0 ic_0 ?_
  refine V_istore_n hX dX3_yardsIn_1 rfl (Nat.le_of_ble_eq_true rfl) rfl ?_
  refine V_iconst hX dX3_yardsIn_2 ic_0 ?_
  refine V_istore hX dX3_yardsIn_3 (Nat.le_of_ble_eq_true rfl) rfl ?_
  refine V_mask [true, true, true, true, true] ?_
  exact v_X3_yardsIn_5 hd9 hX hE _ _ _ _ _ _ hr
def f_X3_yearOfMost_65 (k11 : Int32 → Int32 → Int32 → Wd → Option (Int32 × Wd)) (x3 : Int32) (x4 : Int32) (x5 : Int32) (w : Wd) : Option (Int32 × Wd) := k11 x4 x5 (x3 + 1) w
def f_X3_yearOfMost_11 : Nat → Int32 → Int32 → Int32 → Wd → Option (Int32 × Wd)
  | 0, _, _, _, _ => none
  | n + 1, x1, x2, x3, w => if 8 ≤ x3 then
        (some (x1, w))
      else
        (Option.bind (f_X0_isBundle x3 w) fun q1 =>
        if q1.1 = 0 then
          (f_X3_yearOfMost_11 n x1 x2 (x3 + 1) q1.2)
        else
          (Option.bind (f_X8_earliestOf x3 q1.2) fun q2 =>
          Option.bind (f_X3_yardsIn q2.1 1 q2.2) fun q3 =>
          if x2 < q3.1 then
            (f_X3_yearOfMost_65 (f_X3_yearOfMost_11 n) x3 q2.1 q3.1 q3.2)
          else
            (if q3.1 = x2 then
              (if x1 ≤ q2.1 then
                (f_X3_yearOfMost_11 n x1 x2 (x3 + 1) q3.2)
              else
                (f_X3_yearOfMost_65 (f_X3_yearOfMost_11 n) x3 q2.1 q3.1 q3.2))
            else
              (f_X3_yearOfMost_11 n x1 x2 (x3 + 1) q3.2))))
def f_X3_yearOfMost (w : Wd) : Option (Int32 × Wd) := Option.bind (f_X3_yardsIn 0 1 w) fun q1 =>
    f_X3_yearOfMost_11 fu 0 q1.1 0 q1.2
set_option maxRecDepth 100000 in
set_option maxHeartbeats 4000000 in
theorem v_X3_yearOfMost_65 {d : Nat} (hd9 : 5 ≤ d) {X : bX} (hX : bOk cX3_yearOfMost 6 RX3 d X) {r : (Int32 × Wd)} (hE : bEnd (some .int) (some (.int r.1)) r.2 X) {k11 : Int32 → Int32 → Int32 → Wd → Option (Int32 × Wd)} (hk11 : ∀ (x1 : Int32) (x2 : Int32) (x3 : Int32) (w : Wd), k11 x1 x2 x3 w = some r → bV X 11 [some (.ref 19), some (.int x1), some (.int x2), some (.int x3), none, none] [] w) : ∀ (x3 : Int32) (x4 : Int32) (x5 : Int32) (w : Wd), f_X3_yearOfMost_65 k11 x3 x4 x5 w = some r → bV X 65 [some (.ref 19), none, none, some (.int x3), some (.int x4), some (.int x5)] [] w := by
  intro x3 x4 x5 w hr
  obtain ⟨d, rfl⟩ : ∃ e, d = e + 1 := ⟨d - 1, by omega⟩
  unfold f_X3_yearOfMost_65 at hr
  refine V_iload hX dX3_yearOfMost_65 rfl ?_
  refine V_istore_n hX dX3_yearOfMost_67 rfl (Nat.le_of_ble_eq_true rfl) rfl ?_
  refine V_iload hX dX3_yearOfMost_68 rfl ?_
  refine V_istore_n hX dX3_yearOfMost_70 rfl (Nat.le_of_ble_eq_true rfl) rfl ?_
  refine V_iinc hX dX3_yearOfMost_71 rfl (ii_1 _) (Nat.le_of_ble_eq_true rfl) rfl ?_
  refine V_goto (tgt := 11) hX dX3_yearOfMost_74 (by decide) ?_
  refine V_mask [true, true, true, true, false, false] ?_
  exact hk11 _ _ _ _ hr
set_option maxRecDepth 100000 in
set_option maxHeartbeats 4000000 in
theorem v_X3_yearOfMost_11 {d : Nat} (hd9 : 5 ≤ d) {X : bX} (hX : bOk cX3_yearOfMost 6 RX3 d X) {r : (Int32 × Wd)} (hE : bEnd (some .int) (some (.int r.1)) r.2 X) : ∀ (n : Nat) (x1 : Int32) (x2 : Int32) (x3 : Int32) (w : Wd), f_X3_yearOfMost_11 n x1 x2 x3 w = some r → bV X 11 [some (.ref 19), some (.int x1), some (.int x2), some (.int x3), none, none] [] w := by
  obtain ⟨d, rfl⟩ : ∃ e, d = e + 1 := ⟨d - 1, by omega⟩
  intro n
  induction n with
  | zero => intro x1 x2 x3 w hr; exact absurd hr (by simp [f_X3_yearOfMost_11])
  | succ n ih =>
    intro x1 x2 x3 w hr
    rw [f_X3_yearOfMost_11] at hr
    refine V_iload_n hX dX3_yearOfMost_11 rfl rfl ?_
    refine V_bipush hX dX3_yearOfMost_12 bp_8 ?_
    refine V_icmp_ge (tgt := 77) hX dX3_yearOfMost_14 (by decide) (fun h14 => ?_) (fun h14 => ?_)
    · rw [if_pos h14] at hr
      refine V_iload_n hX dX3_yearOfMost_77 rfl rfl ?_
      cases hr
      exact V_iret hX hE rfl dX3_yearOfMost_78
    · rw [if_neg h14] at hr
      refine V_aload_n hX dX3_yearOfMost_17 rfl rfl ?_
      refine G_RX3_9 hX dX3_yearOfMost_18 ?_
      refine V_iload_n hX dX3_yearOfMost_21 rfl rfl ?_
      obtain ⟨q1, hq1, hr⟩ := bnd hr
      refine C_RX3_19 hX (c_X0_isBundle (by omega) hq1) (Nat.le_of_ble_eq_true rfl) dX3_yearOfMost_22 ?_
      refine V_if_eq (tgt := 71) hX dX3_yearOfMost_25 (by decide) (fun h25 => ?_) (fun h25 => ?_)
      · rw [if_pos h25] at hr
        refine V_iinc hX dX3_yearOfMost_71 rfl (ii_1 _) (Nat.le_of_ble_eq_true rfl) rfl ?_
        refine V_goto (tgt := 11) hX dX3_yearOfMost_74 (by decide) ?_
        refine V_mask [true, true, true, true, false, false] ?_
        exact ih _ _ _ _ hr
      · rw [if_neg h25] at hr
        refine V_aload_n hX dX3_yearOfMost_28 rfl rfl ?_
        refine G_RX3_15 hX dX3_yearOfMost_29 ?_
        refine V_iload_n hX dX3_yearOfMost_32 rfl rfl ?_
        obtain ⟨q2, hq2, hr⟩ := bnd hr
        refine C_RX3_33 hX (c_X8_earliestOf (by omega) hq2) (Nat.le_of_ble_eq_true rfl) dX3_yearOfMost_33 ?_
        refine V_istore hX dX3_yearOfMost_36 (Nat.le_of_ble_eq_true rfl) rfl ?_
        refine V_aload_n hX dX3_yearOfMost_38 rfl rfl ?_
        refine V_iload hX dX3_yearOfMost_39 rfl ?_
        refine V_iconst hX dX3_yearOfMost_41 ic_1 ?_
        obtain ⟨q3, hq3, hr⟩ := bnd hr
        refine C_RX3_57 hX (c_X3_yardsIn (by omega) hq3) (Nat.le_of_ble_eq_true rfl) dX3_yearOfMost_42 ?_
        refine V_istore hX dX3_yearOfMost_45 (Nat.le_of_ble_eq_true rfl) rfl ?_
        refine V_iload hX dX3_yearOfMost_47 rfl ?_
        refine V_iload_n hX dX3_yearOfMost_49 rfl rfl ?_
        refine V_icmp_gt (tgt := 65) hX dX3_yearOfMost_50 (by decide) (fun h50 => ?_) (fun h50 => ?_)
        · rw [if_pos h50] at hr
          refine V_mask [true, false, false, true, true, true] ?_
          exact v_X3_yearOfMost_65 hd9 hX hE ih _ _ _ _ hr
        · rw [if_neg h50] at hr
          refine V_iload hX dX3_yearOfMost_53 rfl ?_
          refine V_iload_n hX dX3_yearOfMost_55 rfl rfl ?_
          refine V_icmp_ne (tgt := 71) hX dX3_yearOfMost_56 (by decide) (fun h56 => ?_) (fun h56 => ?_)
          · rw [if_neg h56] at hr
            refine V_iinc hX dX3_yearOfMost_71 rfl (ii_1 _) (Nat.le_of_ble_eq_true rfl) rfl ?_
            refine V_goto (tgt := 11) hX dX3_yearOfMost_74 (by decide) ?_
            refine V_mask [true, true, true, true, false, false] ?_
            exact ih _ _ _ _ hr
          · rw [if_pos h56] at hr
            refine V_iload hX dX3_yearOfMost_59 rfl ?_
            refine V_iload_n hX dX3_yearOfMost_61 rfl rfl ?_
            refine V_icmp_ge (tgt := 71) hX dX3_yearOfMost_62 (by decide) (fun h62 => ?_) (fun h62 => ?_)
            · rw [if_pos h62] at hr
              refine V_iinc hX dX3_yearOfMost_71 rfl (ii_1 _) (Nat.le_of_ble_eq_true rfl) rfl ?_
              refine V_goto (tgt := 11) hX dX3_yearOfMost_74 (by decide) ?_
              refine V_mask [true, true, true, true, false, false] ?_
              exact ih _ _ _ _ hr
            · rw [if_neg h62] at hr
              refine V_mask [true, false, false, true, true, true] ?_
              exact v_X3_yearOfMost_65 hd9 hX hE ih _ _ _ _ hr
set_option maxRecDepth 100000 in
set_option maxHeartbeats 4000000 in
theorem c_X3_yearOfMost {d : Nat} (hd9 : 5 ≤ d) {w : Wd} {r : (Int32 × Wd)} (hr : f_X3_yearOfMost w = some r) : Con d yX3_yearOfMost cX3_yearOfMost 6 (some .int) [.ref 19] w (some (.int r.1)) r.2 := by
  refine Con_of (by decide) (Nat.le_of_ble_eq_true rfl) (fun X hX hE => ?_)
  have hX : bOk cX3_yearOfMost 6 RX3 d X := hX
  show bV X 0 [some (.ref 19), none, none, none, none, none] [] w
  obtain ⟨d, rfl⟩ : ∃ e, d = e + 1 := ⟨d - 1, by omega⟩
  unfold f_X3_yearOfMost at hr
  refine V_iconst hX dX3_yearOfMost_0 ic_0 ?_
  refine V_istore_n hX dX3_yearOfMost_1 rfl (Nat.le_of_ble_eq_true rfl) rfl ?_
  refine V_aload_n hX dX3_yearOfMost_2 rfl rfl ?_
  refine V_iconst hX dX3_yearOfMost_3 ic_0 ?_
  refine V_iconst hX dX3_yearOfMost_4 ic_1 ?_
  obtain ⟨q1, hq1, hr⟩ := bnd hr
  refine C_RX3_57 hX (c_X3_yardsIn (by omega) hq1) (Nat.le_of_ble_eq_true rfl) dX3_yearOfMost_5 ?_
  refine V_istore_n hX dX3_yearOfMost_8 rfl (Nat.le_of_ble_eq_true rfl) rfl ?_
  refine V_iconst hX dX3_yearOfMost_9 ic_0 ?_
  refine V_istore_n hX dX3_yearOfMost_10 rfl (Nat.le_of_ble_eq_true rfl) rfl ?_
  refine V_mask [true, true, true, true, false, false] ?_
  exact v_X3_yearOfMost_11 hd9 hX hE _ _ _ _ _ hr
