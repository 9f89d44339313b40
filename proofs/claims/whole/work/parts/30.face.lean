def f_X9_write (p0 : Int64) (p1 : Int32) (w : Wd) : Option (Int32 × Wd) := Option.bind (f_X9_within p1 1 8 w) fun q1 =>
    if q1.1 = 0 then
      (some ((-3), q1.2))
    else
      (Option.bind (f_X6_hasRoomFor p1 q1.2) fun q2 =>
      if q2.1 = 0 then
        (some ((-5), q2.2))
      else
        (Option.bind (f_X6_add p0 p1 q2.2) fun q3 =>
        some ((q3.1 1 1), q3)))
set_option maxRecDepth 100000 in
set_option maxHeartbeats 4000000 in
theorem c_X9_write {d : Nat} (hd9 : 2 ≤ d) {p0 : Int64} {p1 : Int32} {w : Wd} {r : (Int32 × Wd)} (hr : f_X9_write p0 p1 w = some r) : Con d yX9_write cX9_write 4 (some .int) [.ref 0, .long p0, .int p1] w (some (.int r.1)) r.2 := by
  refine Con_of (by decide) (Nat.le_of_ble_eq_true rfl) (fun X hX hE => ?_)
  have hX : bOk cX9_write 4 RX9 d X := hX
  show bV X 0 [some (.ref 0), some (.long p0), none, some (.int p1)] [] w
  obtain ⟨d, rfl⟩ : ∃ e, d = e + 1 := ⟨d - 1, by omega⟩
  unfold f_X9_write at hr
  refine V_iload_n hX dX9_write_0 rfl rfl ?_
  refine V_iconst hX dX9_write_1 ic_1 ?_
  refine V_bipush hX dX9_write_2 bp_8 ?_
  obtain ⟨q1, hq1, hr⟩ := bnd hr
  refine C_RX9_78 hX (c_X9_within (by omega) hq1) (Nat.le_of_ble_eq_true rfl) dX9_write_4 ?_
  refine V_if_ne (tgt := 13) hX dX9_write_7 (by decide) (fun h7 => ?_) (fun h7 => ?_)
  · rw [if_neg h7] at hr
    refine V_aload_n hX dX9_write_13 rfl rfl ?_
    refine G_RX9_10 hX dX9_write_14 ?_
    refine V_iload_n hX dX9_write_17 rfl rfl ?_
    obtain ⟨q2, hq2, hr⟩ := bnd hr
    refine C_RX9_82 hX (c_X6_hasRoomFor (by omega) hq2) (Nat.le_of_ble_eq_true rfl) dX9_write_18 ?_
    refine V_if_ne (tgt := 27) hX dX9_write_21 (by decide) (fun h21 => ?_) (fun h21 => ?_)
    · rw [if_neg h21] at hr
      refine V_aload_n hX dX9_write_27 rfl rfl ?_
      refine G_RX9_10 hX dX9_write_28 ?_
      refine V_lload_n hX dX9_write_31 rfl rfl ?_
      refine V_iload_n hX dX9_write_32 rfl rfl ?_
      obtain ⟨q3, hq3, hr⟩ := bnd hr
      refine C_RX9_86 hX (c_X6_add (by omega) hq3) (Nat.le_of_ble_eq_true rfl) dX9_write_33 ?_
      refine V_aload_n hX dX9_write_36 rfl rfl ?_
      refine G_RX9_10 hX dX9_write_37 ?_
      refine G_RX9_90 hX dX9_write_40 ?_
      cases hr
      exact V_iret hX hE rfl dX9_write_43
    · rw [if_pos h21] at hr
      refine V_bipush hX dX9_write_24 bp_m5 ?_
      cases hr
      exact V_iret hX hE rfl dX9_write_26
  · rw [if_pos h7] at hr
    refine V_bipush hX dX9_write_10 bp_m3 ?_
    cases hr
    exact V_iret hX hE rfl dX9_write_12
def f_X9_erase (w : Wd) : Option (Int32 × Wd) := some ((w.1 1 1), (wS w 1 1 0))
set_option maxRecDepth 100000 in
set_option maxHeartbeats 4000000 in
theorem c_X9_erase {d : Nat} (hd9 : 0 ≤ d) {w : Wd} {r : (Int32 × Wd)} (hr : f_X9_erase w = some r) : Con d yX9_erase cX9_erase 2 (some .int) [.ref 0] w (some (.int r.1)) r.2 := by
  refine Con_of (by decide) (Nat.le_of_ble_eq_true rfl) (fun X hX hE => ?_)
  have hX : bOk cX9_erase 2 RX9 d X := hX
  show bV X 0 [some (.ref 0), none] [] w
  unfold f_X9_erase at hr
  refine V_aload_n hX dX9_erase_0 rfl rfl ?_
  refine G_RX9_10 hX dX9_erase_1 ?_
  refine G_RX9_90 hX dX9_erase_4 ?_
  refine V_istore_n hX dX9_erase_7 rfl (Nat.le_of_ble_eq_true rfl) rfl ?_
  refine V_aload_n hX dX9_erase_8 rfl rfl ?_
  refine G_RX9_10 hX dX9_erase_9 ?_
  refine V_iconst hX dX9_erase_12 ic_0 ?_
  refine P_RX9_90 hX dX9_erase_13 ?_
  refine V_iload_n hX dX9_erase_16 rfl rfl ?_
  cases hr
  exact V_iret hX hE rfl dX9_erase_17
def f_X9_fault (w : Wd) : Option (Int32 × Wd) := Option.bind (f_X4_firstFault w) fun q1 =>
    some (q1.1, q1.2)
set_option maxRecDepth 100000 in
set_option maxHeartbeats 4000000 in
theorem c_X9_fault {d : Nat} (hd9 : 9 ≤ d) {w : Wd} {r : (Int32 × Wd)} (hr : f_X9_fault w = some r) : Con d yX9_fault cX9_fault 1 (some .int) [.ref 0] w (some (.int r.1)) r.2 := by
  refine Con_of (by decide) (Nat.le_of_ble_eq_true rfl) (fun X hX hE => ?_)
  have hX : bOk cX9_fault 1 RX9 d X := hX
  show bV X 0 [some (.ref 0)] [] w
  obtain ⟨d, rfl⟩ : ∃ e, d = e + 1 := ⟨d - 1, by omega⟩
  unfold f_X9_fault at hr
  refine V_aload_n hX dX9_fault_0 rfl rfl ?_
  refine G_RX9_21 hX dX9_fault_1 ?_
  obtain ⟨q1, hq1, hr⟩ := bnd hr
  refine C_RX9_94 hX (c_X4_firstFault (by omega) hq1) (Nat.le_of_ble_eq_true rfl) dX9_fault_4 ?_
  cases hr
  exact V_iret hX hE rfl dX9_fault_7
def f_X9_parish_16 : Nat → Int32 → Wd → Option (Int32 × Wd)
  | 0, _, _ => none
  | n + 1, x1, w => if (w.1 3 2) ≤ x1 then
        (some (((wS w 1 1 0).1 3 2), (wS w 1 1 0)))
      else
        (Option.bind (f_X0_doLine x1 w) fun q1 =>
        f_X9_parish_16 n (x1 + 1) q1)
def f_X9_parish (w : Wd) : Option (Int32 × Wd) := Option.bind (f_X4_firstFault w) fun q1 =>
    if q1.1 = (-1) then
      (f_X9_parish_16 fu 0 q1.2)
    else
      (some ((-4), q1.2))
set_option maxRecDepth 100000 in
set_option maxHeartbeats 4000000 in
theorem v_X9_parish_16 {d : Nat} (hd9 : 9 ≤ d) {X : bX} (hX : bOk cX9_parish 2 RX9 d X) {r : (Int32 × Wd)} (hE : bEnd (some .int) (some (.int r.1)) r.2 X) : ∀ (n : Nat) (x1 : Int32) (w : Wd), f_X9_parish_16 n x1 w = some r → bV X 16 [some (.ref 0), some (.int x1)] [] w := by
  obtain ⟨d, rfl⟩ : ∃ e, d = e + 1 := ⟨d - 1, by omega⟩
  intro n
  induction n with
  | zero => intro x1 w hr; exact absurd hr (by simp [f_X9_parish_16])
  | succ n ih =>
    intro x1 w hr
    rw [f_X9_parish_16] at hr
    refine V_iload_n hX dX9_parish_16 rfl rfl ?_
    refine V_aload_n hX dX9_parish_17 rfl rfl ?_
    refine G_RX9_21 hX dX9_parish_18 ?_
    refine G_RX9_98 hX dX9_parish_21 ?_
    refine V_icmp_ge (tgt := 45) hX dX9_parish_24 (by decide) (fun h24 => ?_) (fun h24 => ?_)
    · rw [if_pos h24] at hr
      refine V_aload_n hX dX9_parish_45 rfl rfl ?_
      refine G_RX9_10 hX dX9_parish_46 ?_
      refine V_iconst hX dX9_parish_49 ic_0 ?_
      refine P_RX9_90 hX dX9_parish_50 ?_
      refine V_aload_n hX dX9_parish_53 rfl rfl ?_
      refine G_RX9_21 hX dX9_parish_54 ?_
      refine G_RX9_98 hX dX9_parish_57 ?_
      cases hr
      exact V_iret hX hE rfl dX9_parish_60
    · rw [if_neg h24] at hr
      refine V_aload_n hX dX9_parish_27 rfl rfl ?_
      refine G_RX9_28 hX dX9_parish_28 ?_
      refine V_aload_n hX dX9_parish_31 rfl rfl ?_
      refine G_RX9_21 hX dX9_parish_32 ?_
      refine V_iload_n hX dX9_parish_35 rfl rfl ?_
      obtain ⟨q1, hq1, hr⟩ := bnd hr
      refine C_RX9_101 hX (c_X0_doLine (by omega) hq1) (Nat.le_of_ble_eq_true rfl) dX9_parish_36 ?_
      refine V_iinc hX dX9_parish_39 rfl (ii_1 _) (Nat.le_of_ble_eq_true rfl) rfl ?_
      refine V_goto (tgt := 16) hX dX9_parish_42 (by decide) ?_
      refine V_mask [true, true] ?_
      exact ih _ _ hr
set_option maxRecDepth 100000 in
set_option maxHeartbeats 4000000 in
theorem c_X9_parish {d : Nat} (hd9 : 9 ≤ d) {w : Wd} {r : (Int32 × Wd)} (hr : f_X9_parish w = some r) : Con d yX9_parish cX9_parish 2 (some .int) [.ref 0] w (some (.int r.1)) r.2 := by
  refine Con_of (by decide) (Nat.le_of_ble_eq_true rfl) (fun X hX hE => ?_)
  have hX : bOk cX9_parish 2 RX9 d X := hX
  show bV X 0 [some (.ref 0), none] [] w
  obtain ⟨d, rfl⟩ : ∃ e, d = e + 1 := ⟨d - 1, by omega⟩
  unfold f_X9_parish at hr
  refine V_aload_n hX dX9_parish_0 rfl rfl ?_
  refine G_RX9_21 hX dX9_parish_1 ?_
  obtain ⟨q1, hq1, hr⟩ := bnd hr
  refine C_RX9_94 hX (c_X4_firstFault (by omega) hq1) (Nat.le_of_ble_eq_true rfl) dX9_parish_4 ?_
  refine V_iconst hX dX9_parish_7 ic_m1 ?_
  refine V_icmp_eq (tgt := 14) hX dX9_parish_8 (by decide) (fun h8 => ?_) (fun h8 => ?_)
  · rw [if_pos h8] at hr
    refine V_iconst hX dX9_parish_14 ic_0 ?_
    refine V_istore_n hX dX9_parish_15 rfl (Nat.le_of_ble_eq_true rfl) rfl ?_
    refine V_mask [true, true] ?_
    exact v_X9_parish_16 hd9 hX hE _ _ _ hr
  · rw [if_neg h8] at hr
    refine V_bipush hX dX9_parish_11 bp_m4 ?_
    cases hr
    exact V_iret hX hE rfl dX9_parish_13
def f_X9_bundle (p0 : Int32) (p1 : Int32) (w : Wd) : Option (Int32 × Wd) := Option.bind (f_X0_isBundle p0 w) fun q1 =>
    if q1.1 = 0 then
      (some ((-2), q1.2))
    else
      (if p1 = 9 then
        (Option.bind (f_X0_yards p0 q1.2) fun q2 =>
        some (q2.1, q2.2))
      else
        (Option.bind (f_X9_within p1 0 8 q1.2) fun q2 =>
        if q2.1 = 0 then
          (some ((-3), q2.2))
        else
          (Option.bind (f_X0_part p0 p1 q2.2) fun q3 =>
          some (q3.1, q3.2))))
set_option maxRecDepth 100000 in
set_option maxHeartbeats 4000000 in
theorem c_X9_bundle {d : Nat} (hd9 : 3 ≤ d) {p0 : Int32} {p1 : Int32} {w : Wd} {r : (Int32 × Wd)} (hr : f_X9_bundle p0 p1 w = some r) : Con d yX9_bundle cX9_bundle 3 (some .int) [.ref 0, .int p0, .int p1] w (some (.int r.1)) r.2 := by
  refine Con_of (by decide) (Nat.le_of_ble_eq_true rfl) (fun X hX hE => ?_)
  have hX : bOk cX9_bundle 3 RX9 d X := hX
  show bV X 0 [some (.ref 0), some (.int p0), some (.int p1)] [] w
  obtain ⟨d, rfl⟩ : ∃ e, d = e + 1 := ⟨d - 1, by omega⟩
  unfold f_X9_bundle at hr
  refine V_aload_n hX dX9_bundle_0 rfl rfl ?_
  refine G_RX9_28 hX dX9_bundle_1 ?_
  refine V_iload_n hX dX9_bundle_4 rfl rfl ?_
  obtain ⟨q1, hq1, hr⟩ := bnd hr
  refine C_RX9_105 hX (c_X0_isBundle (by omega) hq1) (Nat.le_of_ble_eq_true rfl) dX9_bundle_5 ?_
  refine V_if_ne (tgt := 14) hX dX9_bundle_8 (by decide) (fun h8 => ?_) (fun h8 => ?_)
  · rw [if_neg h8] at hr
    refine V_iload_n hX dX9_bundle_14 rfl rfl ?_
    refine V_bipush hX dX9_bundle_15 bp_9 ?_
    refine V_icmp_ne (tgt := 29) hX dX9_bundle_17 (by decide) (fun h17 => ?_) (fun h17 => ?_)
    · rw [if_neg h17] at hr
      refine V_iload_n hX dX9_bundle_29 rfl rfl ?_
      refine V_iconst hX dX9_bundle_30 ic_0 ?_
      refine V_bipush hX dX9_bundle_31 bp_8 ?_
      obtain ⟨q2, hq2, hr⟩ := bnd hr
      refine C_RX9_78 hX (c_X9_within (by omega) hq2) (Nat.le_of_ble_eq_true rfl) dX9_bundle_33 ?_
      refine V_if_eq (tgt := 51) hX dX9_bundle_36 (by decide) (fun h36 => ?_) (fun h36 => ?_)
      · rw [if_pos h36] at hr
        refine V_bipush hX dX9_bundle_51 bp_m3 ?_
        cases hr
        exact V_iret hX hE rfl dX9_bundle_53
      · rw [if_neg h36] at hr
        refine V_aload_n hX dX9_bundle_39 rfl rfl ?_
        refine G_RX9_28 hX dX9_bundle_40 ?_
        refine V_iload_n hX dX9_bundle_43 rfl rfl ?_
        refine V_iload_n hX dX9_bundle_44 rfl rfl ?_
        obtain ⟨q3, hq3, hr⟩ := bnd hr
        refine C_RX9_112 hX (c_X0_part (by omega) hq3) (Nat.le_of_ble_eq_true rfl) dX9_bundle_45 ?_
        refine V_goto (tgt := 53) hX dX9_bundle_48 (by decide) ?_
        cases hr
        exact V_iret hX hE rfl dX9_bundle_53
    · rw [if_pos h17] at hr
      refine V_aload_n hX dX9_bundle_20 rfl rfl ?_
      refine G_RX9_28 hX dX9_bundle_21 ?_
      refine V_iload_n hX dX9_bundle_24 rfl rfl ?_
      obtain ⟨q2, hq2, hr⟩ := bnd hr
      refine C_RX9_108 hX (c_X0_yards (by omega) hq2) (Nat.le_of_ble_eq_true rfl) dX9_bundle_25 ?_
      cases hr
      exact V_iret hX hE rfl dX9_bundle_28
  · rw [if_pos h8] at hr
    refine V_bipush hX dX9_bundle_11 bp_m2 ?_
    cases hr
    exact V_iret hX hE rfl dX9_bundle_13
def f_X9_covers (p0 : Int32) (p1 : Int32) (w : Wd) : Option (Int32 × Wd) := Option.bind (f_X0_isThing p0 w) fun q1 =>
    if q1.1 = 0 then
      (some ((-2), q1.2))
    else
      (Option.bind (f_X9_within p1 0 3 q1.2) fun q2 =>
      if q2.1 = 0 then
        (some ((-3), q2.2))
      else
        (Option.bind (f_X0_boxPart p0 p1 q2.2) fun q3 =>
        some (q3.1, q3.2)))
set_option maxRecDepth 100000 in
set_option maxHeartbeats 4000000 in
theorem c_X9_covers {d : Nat} (hd9 : 2 ≤ d) {p0 : Int32} {p1 : Int32} {w : Wd} {r : (Int32 × Wd)} (hr : f_X9_covers p0 p1 w = some r) : Con d yX9_covers cX9_covers 3 (some .int) [.ref 0, .int p0, .int p1] w (some (.int r.1)) r.2 := by
  refine Con_of (by decide) (Nat.le_of_ble_eq_true rfl) (fun X hX hE => ?_)
  have hX : bOk cX9_covers 3 RX9 d X := hX
  show bV X 0 [some (.ref 0), some (.int p0), some (.int p1)] [] w
  obtain ⟨d, rfl⟩ : ∃ e, d = e + 1 := ⟨d - 1, by omega⟩
  unfold f_X9_covers at hr
  refine V_aload_n hX dX9_covers_0 rfl rfl ?_
  refine G_RX9_28 hX dX9_covers_1 ?_
  refine V_iload_n hX dX9_covers_4 rfl rfl ?_
  obtain ⟨q1, hq1, hr⟩ := bnd hr
  refine C_RX9_116 hX (c_X0_isThing (by omega) hq1) (Nat.le_of_ble_eq_true rfl) dX9_covers_5 ?_
  refine V_if_ne (tgt := 14) hX dX9_covers_8 (by decide) (fun h8 => ?_) (fun h8 => ?_)
  · rw [if_neg h8] at hr
    refine V_iload_n hX dX9_covers_14 rfl rfl ?_
    refine V_iconst hX dX9_covers_15 ic_0 ?_
    refine V_iconst hX dX9_covers_16 ic_3 ?_
    obtain ⟨q2, hq2, hr⟩ := bnd hr
    refine C_RX9_78 hX (c_X9_within (by omega) hq2) (Nat.le_of_ble_eq_true rfl) dX9_covers_17 ?_
    refine V_if_eq (tgt := 35) hX dX9_covers_20 (by decide) (fun h20 => ?_) (fun h20 => ?_)
    · rw [if_pos h20] at hr
      refine V_bipush hX dX9_covers_35 bp_m3 ?_
      cases hr
      exact V_iret hX hE rfl dX9_covers_37
    · rw [if_neg h20] at hr
      refine V_aload_n hX dX9_covers_23 rfl rfl ?_
      refine G_RX9_28 hX dX9_covers_24 ?_
      refine V_iload_n hX dX9_covers_27 rfl rfl ?_
      refine V_iload_n hX dX9_covers_28 rfl rfl ?_
      obtain ⟨q3, hq3, hr⟩ := bnd hr
      refine C_RX9_119 hX (c_X0_boxPart (by omega) hq3) (Nat.le_of_ble_eq_true rfl) dX9_covers_29 ?_
      refine V_goto (tgt := 37) hX dX9_covers_32 (by decide) ?_
      cases hr
      exact V_iret hX hE rfl dX9_covers_37
  · rw [if_pos h8] at hr
    refine V_bipush hX dX9_covers_11 bp_m2 ?_
    cases hr
    exact V_iret hX hE rfl dX9_covers_13
def f_X9_teams (p0 : Int32) (w : Wd) : Option (Int32 × Wd) := Option.bind (f_X0_isBundle p0 w) fun q1 =>
    if q1.1 = 0 then
      (some ((-2), q1.2))
    else
      (Option.bind (f_X0_fittingTeams p0 q1.2) fun q2 =>
      some (q2.1, q2.2))
set_option maxRecDepth 100000 in
set_option maxHeartbeats 4000000 in
theorem c_X9_teams {d : Nat} (hd9 : 3 ≤ d) {p0 : Int32} {w : Wd} {r : (Int32 × Wd)} (hr : f_X9_teams p0 w = some r) : Con d yX9_teams cX9_teams 2 (some .int) [.ref 0, .int p0] w (some (.int r.1)) r.2 := by
  refine Con_of (by decide) (Nat.le_of_ble_eq_true rfl) (fun X hX hE => ?_)
  have hX : bOk cX9_teams 2 RX9 d X := hX
  show bV X 0 [some (.ref 0), some (.int p0)] [] w
  obtain ⟨d, rfl⟩ : ∃ e, d = e + 1 := ⟨d - 1, by omega⟩
  unfold f_X9_teams at hr
  refine V_aload_n hX dX9_teams_0 rfl rfl ?_
  refine G_RX9_28 hX dX9_teams_1 ?_
  refine V_iload_n hX dX9_teams_4 rfl rfl ?_
  obtain ⟨q1, hq1, hr⟩ := bnd hr
  refine C_RX9_105 hX (c_X0_isBundle (by omega) hq1) (Nat.le_of_ble_eq_true rfl) dX9_teams_5 ?_
  refine V_if_eq (tgt := 22) hX dX9_teams_8 (by decide) (fun h8 => ?_) (fun h8 => ?_)
  · rw [if_pos h8] at hr
    refine V_bipush hX dX9_teams_22 bp_m2 ?_
    cases hr
    exact V_iret hX hE rfl dX9_teams_24
  · rw [if_neg h8] at hr
    refine V_aload_n hX dX9_teams_11 rfl rfl ?_
    refine G_RX9_28 hX dX9_teams_12 ?_
    refine V_iload_n hX dX9_teams_15 rfl rfl ?_
    obtain ⟨q2, hq2, hr⟩ := bnd hr
    refine C_RX9_122 hX (c_X0_fittingTeams (by omega) hq2) (Nat.le_of_ble_eq_true rfl) dX9_teams_16 ?_
    refine V_goto (tgt := 24) hX dX9_teams_19 (by decide) ?_
    cases hr
    exact V_iret hX hE rfl dX9_teams_24
def f_X9_span (p0 : Int32) (p1 : Int32) (w : Wd) : Option (Int32 × Wd) := Option.bind (f_X0_isThing p0 w) fun q1 =>
    if q1.1 = 0 then
      (some ((-2), q1.2))
    else
      (Option.bind (f_X9_within p1 0 1 q1.2) fun q2 =>
      if q2.1 = 0 then
        (some ((-3), q2.2))
      else
        (Option.bind (f_X8_settle q2.2) fun q3 =>
        if q3.1 = 0 then
          (some ((-1), q3.2))
        else
          (if p1 = 0 then
            (Option.bind (f_X8_earliestOf p0 q3.2) fun q4 =>
            some (q4.1, q4.2))
          else
            (Option.bind (f_X8_latestOf p0 q3.2) fun q4 =>
            some (q4.1, q4.2)))))
set_option maxRecDepth 100000 in
set_option maxHeartbeats 4000000 in
theorem c_X9_span {d : Nat} (hd9 : 5 ≤ d) {p0 : Int32} {p1 : Int32} {w : Wd} {r : (Int32 × Wd)} (hr : f_X9_span p0 p1 w = some r) : Con d yX9_span cX9_span 3 (some .int) [.ref 0, .int p0, .int p1] w (some (.int r.1)) r.2 := by
  refine Con_of (by decide) (Nat.le_of_ble_eq_true rfl) (fun X hX hE => ?_)
  have hX : bOk cX9_span 3 RX9 d X := hX
  show bV X 0 [some (.ref 0), some (.int p0), some (.int p1)] [] w
  obtain ⟨d, rfl⟩ : ∃ e, d = e + 1 := ⟨d - 1, by omega⟩
  unfold f_X9_span at hr
  refine V_aload_n hX dX9_span_0 rfl rfl ?_
  refine G_RX9_28 hX dX9_span_1 ?_
  refine V_iload_n hX dX9_span_4 rfl rfl ?_
  obtain ⟨q1, hq1, hr⟩ := bnd hr
  refine C_RX9_116 hX (c_X0_isThing (by omega) hq1) (Nat.le_of_ble_eq_true rfl) dX9_span_5 ?_
  refine V_if_ne (tgt := 14) hX dX9_span_8 (by decide) (fun h8 => ?_) (fun h8 => ?_)
  · rw [if_neg h8] at hr
    refine V_iload_n hX dX9_span_14 rfl rfl ?_
    refine V_iconst hX dX9_span_15 ic_0 ?_
    refine V_iconst hX dX9_span_16 ic_1 ?_
    obtain ⟨q2, hq2, hr⟩ := bnd hr
    refine C_RX9_78 hX (c_X9_within (by omega) hq2) (Nat.le_of_ble_eq_true rfl) dX9_span_17 ?_
    refine V_if_ne (tgt := 26) hX dX9_span_20 (by decide) (fun h20 => ?_) (fun h20 => ?_)
    · rw [if_neg h20] at hr
      refine V_aload_n hX dX9_span_26 rfl rfl ?_
      refine G_RX9_37 hX dX9_span_27 ?_
      obtain ⟨q3, hq3, hr⟩ := bnd hr
      refine C_RX9_125 hX (c_X8_settle (by omega) hq3) (Nat.le_of_ble_eq_true rfl) dX9_span_30 ?_
      refine V_if_ne (tgt := 38) hX dX9_span_33 (by decide) (fun h33 => ?_) (fun h33 => ?_)
      · rw [if_neg h33] at hr
        refine V_iload_n hX dX9_span_38 rfl rfl ?_
        refine V_if_ne (tgt := 53) hX dX9_span_39 (by decide) (fun h39 => ?_) (fun h39 => ?_)
        · rw [if_neg h39] at hr
          refine V_aload_n hX dX9_span_53 rfl rfl ?_
          refine G_RX9_37 hX dX9_span_54 ?_
          refine V_iload_n hX dX9_span_57 rfl rfl ?_
          obtain ⟨q4, hq4, hr⟩ := bnd hr
          refine C_RX9_132 hX (c_X8_latestOf (by omega) hq4) (Nat.le_of_ble_eq_true rfl) dX9_span_58 ?_
          cases hr
          exact V_iret hX hE rfl dX9_span_61
        · rw [if_pos h39] at hr
          refine V_aload_n hX dX9_span_42 rfl rfl ?_
          refine G_RX9_37 hX dX9_span_43 ?_
          refine V_iload_n hX dX9_span_46 rfl rfl ?_
          obtain ⟨q4, hq4, hr⟩ := bnd hr
          refine C_RX9_129 hX (c_X8_earliestOf (by omega) hq4) (Nat.le_of_ble_eq_true rfl) dX9_span_47 ?_
          refine V_goto (tgt := 61) hX dX9_span_50 (by decide) ?_
          cases hr
          exact V_iret hX hE rfl dX9_span_61
      · rw [if_pos h33] at hr
        refine V_iconst hX dX9_span_36 ic_m1 ?_
        cases hr
        exact V_iret hX hE rfl dX9_span_37
    · rw [if_pos h20] at hr
      refine V_bipush hX dX9_span_23 bp_m3 ?_
      cases hr
      exact V_iret hX hE rfl dX9_span_25
  · rw [if_pos h8] at hr
    refine V_bipush hX dX9_span_11 bp_m2 ?_
    cases hr
    exact V_iret hX hE rfl dX9_span_13
def f_X9_ring (w : Wd) : Option (Int32 × Wd) := Option.bind (f_X8_ringed w) fun q1 =>
    some (q1.1, q1.2)
set_option maxRecDepth 100000 in
set_option maxHeartbeats 4000000 in
theorem c_X9_ring {d : Nat} (hd9 : 4 ≤ d) {w : Wd} {r : (Int32 × Wd)} (hr : f_X9_ring w = some r) : Con d yX9_ring cX9_ring 1 (some .int) [.ref 0] w (some (.int r.1)) r.2 := by
  refine Con_of (by decide) (Nat.le_of_ble_eq_true rfl) (fun X hX hE => ?_)
  have hX : bOk cX9_ring 1 RX9 d X := hX
  show bV X 0 [some (.ref 0)] [] w
  obtain ⟨d, rfl⟩ : ∃ e, d = e + 1 := ⟨d - 1, by omega⟩
  unfold f_X9_ring at hr
  refine V_aload_n hX dX9_ring_0 rfl rfl ?_
  refine G_RX9_37 hX dX9_ring_1 ?_
  obtain ⟨q1, hq1, hr⟩ := bnd hr
  refine C_RX9_135 hX (c_X8_ringed (by omega) hq1) (Nat.le_of_ble_eq_true rfl) dX9_ring_4 ?_
  cases hr
  exact V_iret hX hE rfl dX9_ring_7
def f_X9_stack (p0 : Int32) (w : Wd) : Option (Int32 × Wd) := if (-1) ≤ p0 then
      (Option.bind (f_X8_stackAt p0 w) fun q1 =>
      some (q1.1, q1.2))
    else
      (some ((-3), w))
set_option maxRecDepth 100000 in
set_option maxHeartbeats 4000000 in
theorem c_X9_stack {d : Nat} (hd9 : 5 ≤ d) {p0 : Int32} {w : Wd} {r : (Int32 × Wd)} (hr : f_X9_stack p0 w = some r) : Con d yX9_stack cX9_stack 2 (some .int) [.ref 0, .int p0] w (some (.int r.1)) r.2 := by
  refine Con_of (by decide) (Nat.le_of_ble_eq_true rfl) (fun X hX hE => ?_)
  have hX : bOk cX9_stack 2 RX9 d X := hX
  show bV X 0 [some (.ref 0), some (.int p0)] [] w
  obtain ⟨d, rfl⟩ : ∃ e, d = e + 1 := ⟨d - 1, by omega⟩
  unfold f_X9_stack at hr
  refine V_iload_n hX dX9_stack_0 rfl rfl ?_
  refine V_iconst hX dX9_stack_1 ic_m1 ?_
  refine V_icmp_ge (tgt := 10) hX dX9_stack_2 (by decide) (fun h2 => ?_) (fun h2 => ?_)
  · rw [if_pos h2] at hr
    refine V_aload_n hX dX9_stack_10 rfl rfl ?_
    refine G_RX9_37 hX dX9_stack_11 ?_
    refine V_iload_n hX dX9_stack_14 rfl rfl ?_
    obtain ⟨q1, hq1, hr⟩ := bnd hr
    refine C_RX9_138 hX (c_X8_stackAt (by omega) hq1) (Nat.le_of_ble_eq_true rfl) dX9_stack_15 ?_
    cases hr
    exact V_iret hX hE rfl dX9_stack_18
  · rw [if_neg h2] at hr
    refine V_bipush hX dX9_stack_5 bp_m3 ?_
    refine V_goto (tgt := 18) hX dX9_stack_7 (by decide) ?_
    cases hr
    exact V_iret hX hE rfl dX9_stack_18
def f_X9_over (p0 : Int32) (p1 : Int32) (w : Wd) : Option (Int32 × Wd) := Option.bind (f_X0_isThing p0 w) fun q1 =>
    if q1.1 = 0 then
      (some ((-2), q1.2))
    else
      (Option.bind (f_X0_isThing p1 q1.2) fun q2 =>
      if q2.1 = 0 then
        (some ((-2), q2.2))
      else
        (Option.bind (f_X8_liesOverByOthers p0 p1 q2.2) fun q3 =>
        Option.bind (f_X9_oneIf q3.1 q3.2) fun q4 =>
        some (q4.1, q4.2)))
set_option maxRecDepth 100000 in
set_option maxHeartbeats 4000000 in
theorem c_X9_over {d : Nat} (hd9 : 4 ≤ d) {p0 : Int32} {p1 : Int32} {w : Wd} {r : (Int32 × Wd)} (hr : f_X9_over p0 p1 w = some r) : Con d yX9_over cX9_over 3 (some .int) [.ref 0, .int p0, .int p1] w (some (.int r.1)) r.2 := by
  refine Con_of (by decide) (Nat.le_of_ble_eq_true rfl) (fun X hX hE => ?_)
  have hX : bOk cX9_over 3 RX9 d X := hX
  show bV X 0 [some (.ref 0), some (.int p0), some (.int p1)] [] w
  obtain ⟨d, rfl⟩ : ∃ e, d = e + 1 := ⟨d - 1, by omega⟩
  unfold f_X9_over at hr
  refine V_aload_n hX dX9_over_0 rfl rfl ?_
  refine G_RX9_28 hX dX9_over_1 ?_
  refine V_iload_n hX dX9_over_4 rfl rfl ?_
  obtain ⟨q1, hq1, hr⟩ := bnd hr
  refine C_RX9_116 hX (c_X0_isThing (by omega) hq1) (Nat.le_of_ble_eq_true rfl) dX9_over_5 ?_
  refine V_if_eq (tgt := 22) hX dX9_over_8 (by decide) (fun h8 => ?_) (fun h8 => ?_)
  · rw [if_pos h8] at hr
    refine V_bipush hX dX9_over_22 bp_m2 ?_
    cases hr
    exact V_iret hX hE rfl dX9_over_24
  · rw [if_neg h8] at hr
    refine V_aload_n hX dX9_over_11 rfl rfl ?_
    refine G_RX9_28 hX dX9_over_12 ?_
    refine V_iload_n hX dX9_over_15 rfl rfl ?_
    obtain ⟨q2, hq2, hr⟩ := bnd hr
    refine C_RX9_116 hX (c_X0_isThing (by omega) hq2) (Nat.le_of_ble_eq_true rfl) dX9_over_16 ?_
    refine V_if_ne (tgt := 25) hX dX9_over_19 (by decide) (fun h19 => ?_) (fun h19 => ?_)
    · rw [if_neg h19] at hr
      refine V_aload_n hX dX9_over_25 rfl rfl ?_
      refine G_RX9_37 hX dX9_over_26 ?_
      refine V_iload_n hX dX9_over_29 rfl rfl ?_
      refine V_iload_n hX dX9_over_30 rfl rfl ?_
      obtain ⟨q3, hq3, hr⟩ := bnd hr
      refine C_RX9_141 hX (c_X8_liesOverByOthers (by omega) hq3) (Nat.le_of_ble_eq_true rfl) dX9_over_31 ?_
      obtain ⟨q4, hq4, hr⟩ := bnd hr
      refine C_RX9_145 hX (c_X9_oneIf (by omega) hq4) (Nat.le_of_ble_eq_true rfl) dX9_over_34 ?_
      cases hr
      exact V_iret hX hE rfl dX9_over_37
    · rw [if_pos h19] at hr
      refine V_bipush hX dX9_over_22 bp_m2 ?_
      cases hr
      exact V_iret hX hE rfl dX9_over_24
def f_X9_isPair (p0 : Int32) (p1 : Int32) (w : Wd) : Option (Int32 × Wd) := if p0 = p1 then
      (some (0, w))
    else
      (Option.bind (f_X0_isBundle p0 w) fun q1 =>
      if q1.1 = 0 then
        (some (0, q1.2))
      else
        (Option.bind (f_X0_isBundle p1 q1.2) fun q2 =>
        if q2.1 = 0 then
          (some (0, q2.2))
        else
          (some (1, q2.2))))
set_option maxRecDepth 100000 in
set_option maxHeartbeats 4000000 in
theorem c_X9_isPair {d : Nat} (hd9 : 2 ≤ d) {p0 : Int32} {p1 : Int32} {w : Wd} {r : (Int32 × Wd)} (hr : f_X9_isPair p0 p1 w = some r) : Con d yX9_isPair cX9_isPair 3 (some .boolean) [.ref 0, .int p0, .int p1] w (some (.int r.1)) r.2 := by
  refine Con_of (by decide) (Nat.le_of_ble_eq_true rfl) (fun X hX hE => ?_)
  have hX : bOk cX9_isPair 3 RX9 d X := hX
  show bV X 0 [some (.ref 0), some (.int p0), some (.int p1)] [] w
  obtain ⟨d, rfl⟩ : ∃ e, d = e + 1 := ⟨d - 1, by omega⟩
  unfold f_X9_isPair at hr
  refine V_iload_n hX dX9_isPair_0 rfl rfl ?_
  refine V_iload_n hX dX9_isPair_1 rfl rfl ?_
  refine V_icmp_eq (tgt := 31) hX dX9_isPair_2 (by decide) (fun h2 => ?_) (fun h2 => ?_)
  · rw [if_pos h2] at hr
    refine V_iconst hX dX9_isPair_31 ic_0 ?_
    cases hr
    exact V_iret hX hE rfl dX9_isPair_32
  · rw [if_neg h2] at hr
    refine V_aload_n hX dX9_isPair_5 rfl rfl ?_
    refine G_RX9_28 hX dX9_isPair_6 ?_
    refine V_iload_n hX dX9_isPair_9 rfl rfl ?_
    obtain ⟨q1, hq1, hr⟩ := bnd hr
    refine C_RX9_105 hX (c_X0_isBundle (by omega) hq1) (Nat.le_of_ble_eq_true rfl) dX9_isPair_10 ?_
    refine V_if_eq (tgt := 31) hX dX9_isPair_13 (by decide) (fun h13 => ?_) (fun h13 => ?_)
    · rw [if_pos h13] at hr
      refine V_iconst hX dX9_isPair_31 ic_0 ?_
      cases hr
      exact V_iret hX hE rfl dX9_isPair_32
    · rw [if_neg h13] at hr
      refine V_aload_n hX dX9_isPair_16 rfl rfl ?_
      refine G_RX9_28 hX dX9_isPair_17 ?_
      refine V_iload_n hX dX9_isPair_20 rfl rfl ?_
      obtain ⟨q2, hq2, hr⟩ := bnd hr
      refine C_RX9_105 hX (c_X0_isBundle (by omega) hq2) (Nat.le_of_ble_eq_true rfl) dX9_isPair_21 ?_
      refine V_if_eq (tgt := 31) hX dX9_isPair_24 (by decide) (fun h24 => ?_) (fun h24 => ?_)
      · rw [if_pos h24] at hr
        refine V_iconst hX dX9_isPair_31 ic_0 ?_
        cases hr
        exact V_iret hX hE rfl dX9_isPair_32
      · rw [if_neg h24] at hr
        refine V_iconst hX dX9_isPair_27 ic_1 ?_
        refine V_goto (tgt := 32) hX dX9_isPair_28 (by decide) ?_
        cases hr
        exact V_iret hX hE rfl dX9_isPair_32
def f_X9_joined (p0 : Int32) (p1 : Int32) (w : Wd) : Option (Int32 × Wd) := Option.bind (f_X9_isPair p0 p1 w) fun q1 =>
    if q1.1 = 0 then
      (some ((-2), q1.2))
    else
      (Option.bind (f_X1_areJoined p0 p1 q1.2) fun q2 =>
      Option.bind (f_X9_oneIf q2.1 q2.2) fun q3 =>
      some (q3.1, q3.2))
set_option maxRecDepth 100000 in
set_option maxHeartbeats 4000000 in
theorem c_X9_joined {d : Nat} (hd9 : 4 ≤ d) {p0 : Int32} {p1 : Int32} {w : Wd} {r : (Int32 × Wd)} (hr : f_X9_joined p0 p1 w = some r) : Con d yX9_joined cX9_joined 3 (some .int) [.ref 0, .int p0, .int p1] w (some (.int r.1)) r.2 := by
  refine Con_of (by decide) (Nat.le_of_ble_eq_true rfl) (fun X hX hE => ?_)
  have hX : bOk cX9_joined 3 RX9 d X := hX
  show bV X 0 [some (.ref 0), some (.int p0), some (.int p1)] [] w
  obtain ⟨d, rfl⟩ : ∃ e, d = e + 1 := ⟨d - 1, by omega⟩
  unfold f_X9_joined at hr
  refine V_aload_n hX dX9_joined_0 rfl rfl ?_
  refine V_iload_n hX dX9_joined_1 rfl rfl ?_
  refine V_iload_n hX dX9_joined_2 rfl rfl ?_
  obtain ⟨q1, hq1, hr⟩ := bnd hr
  refine C_RX9_149 hX (c_X9_isPair (by omega) hq1) (Nat.le_of_ble_eq_true rfl) dX9_joined_3 ?_
  refine V_if_eq (tgt := 24) hX dX9_joined_6 (by decide) (fun h6 => ?_) (fun h6 => ?_)
  · rw [if_pos h6] at hr
    refine V_bipush hX dX9_joined_24 bp_m2 ?_
    cases hr
    exact V_iret hX hE rfl dX9_joined_26
  · rw [if_neg h6] at hr
    refine V_aload_n hX dX9_joined_9 rfl rfl ?_
    refine G_RX9_46 hX dX9_joined_10 ?_
    refine V_iload_n hX dX9_joined_13 rfl rfl ?_
    refine V_iload_n hX dX9_joined_14 rfl rfl ?_
    obtain ⟨q2, hq2, hr⟩ := bnd hr
    refine C_RX9_152 hX (c_X1_areJoined (by omega) hq2) (Nat.le_of_ble_eq_true rfl) dX9_joined_15 ?_
    obtain ⟨q3, hq3, hr⟩ := bnd hr
    refine C_RX9_145 hX (c_X9_oneIf (by omega) hq3) (Nat.le_of_ble_eq_true rfl) dX9_joined_18 ?_
    refine V_goto (tgt := 26) hX dX9_joined_21 (by decide) ?_
    cases hr
    exact V_iret hX hE rfl dX9_joined_26
def f_X9_later (p0 : Int32) (p1 : Int32) (w : Wd) : Option (Int32 × Wd) := Option.bind (f_X9_isPair p0 p1 w) fun q1 =>
    if q1.1 = 0 then
      (some ((-2), q1.2))
    else
      (Option.bind (f_X1_areJoined p0 p1 q1.2) fun q2 =>
      if q2.1 = 0 then
        (some ((-4), q2.2))
      else
        (Option.bind (f_X1_marksBetween p0 p1 q2.2) fun q3 =>
        some (q3.1, q3.2)))
set_option maxRecDepth 100000 in
set_option maxHeartbeats 4000000 in
theorem c_X9_later {d : Nat} (hd9 : 4 ≤ d) {p0 : Int32} {p1 : Int32} {w : Wd} {r : (Int32 × Wd)} (hr : f_X9_later p0 p1 w = some r) : Con d yX9_later cX9_later 3 (some .int) [.ref 0, .int p0, .int p1] w (some (.int r.1)) r.2 := by
  refine Con_of (by decide) (Nat.le_of_ble_eq_true rfl) (fun X hX hE => ?_)
  have hX : bOk cX9_later 3 RX9 d X := hX
  show bV X 0 [some (.ref 0), some (.int p0), some (.int p1)] [] w
  obtain ⟨d, rfl⟩ : ∃ e, d = e + 1 := ⟨d - 1, by omega⟩
  unfold f_X9_later at hr
  refine V_aload_n hX dX9_later_0 rfl rfl ?_
  refine V_iload_n hX dX9_later_1 rfl rfl ?_
  refine V_iload_n hX dX9_later_2 rfl rfl ?_
  obtain ⟨q1, hq1, hr⟩ := bnd hr
  refine C_RX9_149 hX (c_X9_isPair (by omega) hq1) (Nat.le_of_ble_eq_true rfl) dX9_later_3 ?_
  refine V_if_ne (tgt := 12) hX dX9_later_6 (by decide) (fun h6 => ?_) (fun h6 => ?_)
  · rw [if_neg h6] at hr
    refine V_aload_n hX dX9_later_12 rfl rfl ?_
    refine G_RX9_46 hX dX9_later_13 ?_
    refine V_iload_n hX dX9_later_16 rfl rfl ?_
    refine V_iload_n hX dX9_later_17 rfl rfl ?_
    obtain ⟨q2, hq2, hr⟩ := bnd hr
    refine C_RX9_152 hX (c_X1_areJoined (by omega) hq2) (Nat.le_of_ble_eq_true rfl) dX9_later_18 ?_
    refine V_if_eq (tgt := 36) hX dX9_later_21 (by decide) (fun h21 => ?_) (fun h21 => ?_)
    · rw [if_pos h21] at hr
      refine V_bipush hX dX9_later_36 bp_m4 ?_
      cases hr
      exact V_iret hX hE rfl dX9_later_38
    · rw [if_neg h21] at hr
      refine V_aload_n hX dX9_later_24 rfl rfl ?_
      refine G_RX9_46 hX dX9_later_25 ?_
      refine V_iload_n hX dX9_later_28 rfl rfl ?_
      refine V_iload_n hX dX9_later_29 rfl rfl ?_
      obtain ⟨q3, hq3, hr⟩ := bnd hr
      refine C_RX9_155 hX (c_X1_marksBetween (by omega) hq3) (Nat.le_of_ble_eq_true rfl) dX9_later_30 ?_
      refine V_goto (tgt := 38) hX dX9_later_33 (by decide) ?_
      cases hr
      exact V_iret hX hE rfl dX9_later_38
  · rw [if_pos h6] at hr
    refine V_bipush hX dX9_later_9 bp_m2 ?_
    cases hr
    exact V_iret hX hE rfl dX9_later_11
def f_X9_odds (p0 : Int32) (p1 : Int32) (p2 : Int32) (w : Wd) : Option (Int32 × Wd) := Option.bind (f_X9_isPair p0 p1 w) fun q1 =>
    if q1.1 = 0 then
      (some ((-2), q1.2))
    else
      (Option.bind (f_X9_within p2 0 1 q1.2) fun q2 =>
      if q2.1 = 0 then
        (some ((-3), q2.2))
      else
        (Option.bind (f_X1_areJoined p0 p1 q2.2) fun q3 =>
        if q3.1 = 0 then
          (some ((-4), q3.2))
        else
          (Option.bind (f_X1_oddsPart p0 p2 q3.2) fun q4 =>
          some (q4.1, q4.2))))
set_option maxRecDepth 100000 in
set_option maxHeartbeats 4000000 in
theorem c_X9_odds {d : Nat} (hd9 : 4 ≤ d) {p0 : Int32} {p1 : Int32} {p2 : Int32} {w : Wd} {r : (Int32 × Wd)} (hr : f_X9_odds p0 p1 p2 w = some r) : Con d yX9_odds cX9_odds 4 (some .int) [.ref 0, .int p0, .int p1, .int p2] w (some (.int r.1)) r.2 := by
  refine Con_of (by decide) (Nat.le_of_ble_eq_true rfl) (fun X hX hE => ?_)
  have hX : bOk cX9_odds 4 RX9 d X := hX
  show bV X 0 [some (.ref 0), some (.int p0), some (.int p1), some (.int p2)] [] w
  obtain ⟨d, rfl⟩ : ∃ e, d = e + 1 := ⟨d - 1, by omega⟩
  unfold f_X9_odds at hr
  refine V_aload_n hX dX9_odds_0 rfl rfl ?_
  refine V_iload_n hX dX9_odds_1 rfl rfl ?_
  refine V_iload_n hX dX9_odds_2 rfl rfl ?_
  obtain ⟨q1, hq1, hr⟩ := bnd hr
  refine C_RX9_149 hX (c_X9_isPair (by omega) hq1) (Nat.le_of_ble_eq_true rfl) dX9_odds_3 ?_
  refine V_if_ne (tgt := 12) hX dX9_odds_6 (by decide) (fun h6 => ?_) (fun h6 => ?_)
  · rw [if_neg h6] at hr
    refine V_iload_n hX dX9_odds_12 rfl rfl ?_
    refine V_iconst hX dX9_odds_13 ic_0 ?_
    refine V_iconst hX dX9_odds_14 ic_1 ?_
    obtain ⟨q2, hq2, hr⟩ := bnd hr
    refine C_RX9_78 hX (c_X9_within (by omega) hq2) (Nat.le_of_ble_eq_true rfl) dX9_odds_15 ?_
    refine V_if_ne (tgt := 24) hX dX9_odds_18 (by decide) (fun h18 => ?_) (fun h18 => ?_)
    · rw [if_neg h18] at hr
      refine V_aload_n hX dX9_odds_24 rfl rfl ?_
      refine G_RX9_46 hX dX9_odds_25 ?_
      refine V_iload_n hX dX9_odds_28 rfl rfl ?_
      refine V_iload_n hX dX9_odds_29 rfl rfl ?_
      obtain ⟨q3, hq3, hr⟩ := bnd hr
      refine C_RX9_152 hX (c_X1_areJoined (by omega) hq3) (Nat.le_of_ble_eq_true rfl) dX9_odds_30 ?_
      refine V_if_eq (tgt := 48) hX dX9_odds_33 (by decide) (fun h33 => ?_) (fun h33 => ?_)
      · rw [if_pos h33] at hr
        refine V_bipush hX dX9_odds_48 bp_m4 ?_
        cases hr
        exact V_iret hX hE rfl dX9_odds_50
      · rw [if_neg h33] at hr
        refine V_aload_n hX dX9_odds_36 rfl rfl ?_
        refine G_RX9_46 hX dX9_odds_37 ?_
        refine V_iload_n hX dX9_odds_40 rfl rfl ?_
        refine V_iload_n hX dX9_odds_41 rfl rfl ?_
        obtain ⟨q4, hq4, hr⟩ := bnd hr
        refine C_RX9_158 hX (c_X1_oddsPart (by omega) hq4) (Nat.le_of_ble_eq_true rfl) dX9_odds_42 ?_
        refine V_goto (tgt := 50) hX dX9_odds_45 (by decide) ?_
        cases hr
        exact V_iret hX hE rfl dX9_odds_50
    · rw [if_pos h18] at hr
      refine V_bipush hX dX9_odds_21 bp_m3 ?_
      cases hr
      exact V_iret hX hE rfl dX9_odds_23
  · rw [if_pos h6] at hr
    refine V_bipush hX dX9_odds_9 bp_m2 ?_
    cases hr
    exact V_iret hX hE rfl dX9_odds_11
def f_X9_field (p0 : Int32) (p1 : Int32) (w : Wd) : Option (Int32 × Wd) := Option.bind (f_X0_isBundle p0 w) fun q1 =>
    if q1.1 = 0 then
      (some ((-2), q1.2))
    else
      (Option.bind (f_X9_within p1 0 2 q1.2) fun q2 =>
      if q2.1 = 0 then
        (some ((-3), q2.2))
      else
        (Option.bind (f_X1_membersWith p0 q2.2) fun q3 =>
        if p1 = 0 then
          (some (q3.1, q3.2))
        else
          (if p1 = 1 then
            (Option.bind (f_X1_yardsOf q3.1 q3.2) fun q4 =>
            some (q4.1, q4.2))
          else
            (Option.bind (f_X1_firstYearOf q3.1 q3.2) fun q4 =>
            some (q4.1, q4.2)))))
set_option maxRecDepth 100000 in
set_option maxHeartbeats 4000000 in
theorem c_X9_field {d : Nat} (hd9 : 6 ≤ d) {p0 : Int32} {p1 : Int32} {w : Wd} {r : (Int32 × Wd)} (hr : f_X9_field p0 p1 w = some r) : Con d yX9_field cX9_field 4 (some .int) [.ref 0, .int p0, .int p1] w (some (.int r.1)) r.2 := by
  refine Con_of (by decide) (Nat.le_of_ble_eq_true rfl) (fun X hX hE => ?_)
  have hX : bOk cX9_field 4 RX9 d X := hX
  show bV X 0 [some (.ref 0), some (.int p0), some (.int p1), none] [] w
  obtain ⟨d, rfl⟩ : ∃ e, d = e + 1 := ⟨d - 1, by omega⟩
  unfold f_X9_field at hr
  refine V_aload_n hX dX9_field_0 rfl rfl ?_
  refine G_RX9_28 hX dX9_field_1 ?_
  refine V_iload_n hX dX9_field_4 rfl rfl ?_
  obtain ⟨q1, hq1, hr⟩ := bnd hr
  refine C_RX9_105 hX (c_X0_isBundle (by omega) hq1) (Nat.le_of_ble_eq_true rfl) dX9_field_5 ?_
  refine V_if_ne (tgt := 14) hX dX9_field_8 (by decide) (fun h8 => ?_) (fun h8 => ?_)
  · rw [if_neg h8] at hr
    refine V_iload_n hX dX9_field_14 rfl rfl ?_
    refine V_iconst hX dX9_field_15 ic_0 ?_
    refine V_iconst hX dX9_field_16 ic_2 ?_
    obtain ⟨q2, hq2, hr⟩ := bnd hr
    refine C_RX9_78 hX (c_X9_within (by omega) hq2) (Nat.le_of_ble_eq_true rfl) dX9_field_17 ?_
    refine V_if_ne (tgt := 26) hX dX9_field_20 (by decide) (fun h20 => ?_) (fun h20 => ?_)
    · rw [if_neg h20] at hr
      refine V_aload_n hX dX9_field_26 rfl rfl ?_
      refine G_RX9_46 hX dX9_field_27 ?_
      refine V_iload_n hX dX9_field_30 rfl rfl ?_
      obtain ⟨q3, hq3, hr⟩ := bnd hr
      refine C_RX9_161 hX (c_X1_membersWith (by omega) hq3) (Nat.le_of_ble_eq_true rfl) dX9_field_31 ?_
      refine V_istore_n hX dX9_field_34 rfl (Nat.le_of_ble_eq_true rfl) rfl ?_
      refine V_iload_n hX dX9_field_35 rfl rfl ?_
      refine V_if_ne (tgt := 41) hX dX9_field_36 (by decide) (fun h36 => ?_) (fun h36 => ?_)
      · rw [if_neg h36] at hr
        refine V_iload_n hX dX9_field_41 rfl rfl ?_
        refine V_iconst hX dX9_field_42 ic_1 ?_
        refine V_icmp_ne (tgt := 57) hX dX9_field_43 (by decide) (fun h43 => ?_) (fun h43 => ?_)
        · rw [if_neg h43] at hr
          refine V_aload_n hX dX9_field_57 rfl rfl ?_
          refine G_RX9_46 hX dX9_field_58 ?_
          refine V_iload_n hX dX9_field_61 rfl rfl ?_
          obtain ⟨q4, hq4, hr⟩ := bnd hr
          refine C_RX9_167 hX (c_X1_firstYearOf (by omega) hq4) (Nat.le_of_ble_eq_true rfl) dX9_field_62 ?_
          cases hr
          exact V_iret hX hE rfl dX9_field_65
        · rw [if_pos h43] at hr
          refine V_aload_n hX dX9_field_46 rfl rfl ?_
          refine G_RX9_46 hX dX9_field_47 ?_
          refine V_iload_n hX dX9_field_50 rfl rfl ?_
          obtain ⟨q4, hq4, hr⟩ := bnd hr
          refine C_RX9_164 hX (c_X1_yardsOf (by omega) hq4) (Nat.le_of_ble_eq_true rfl) dX9_field_51 ?_
          refine V_goto (tgt := 65) hX dX9_field_54 (by decide) ?_
          cases hr
          exact V_iret hX hE rfl dX9_field_65
      · rw [if_pos h36] at hr
        refine V_iload_n hX dX9_field_39 rfl rfl ?_
        cases hr
        exact V_iret hX hE rfl dX9_field_40
    · rw [if_pos h20] at hr
      refine V_bipush hX dX9_field_23 bp_m3 ?_
      cases hr
      exact V_iret hX hE rfl dX9_field_25
  · rw [if_pos h8] at hr
    refine V_bipush hX dX9_field_11 bp_m2 ?_
    cases hr
    exact V_iret hX hE rfl dX9_field_13
def f_X9_fields (w : Wd) : Option (Int32 × Wd) := Option.bind (f_X1_howManyFields w) fun q1 =>
    some (q1.1, q1.2)
set_option maxRecDepth 100000 in
set_option maxHeartbeats 4000000 in
theorem c_X9_fields {d : Nat} (hd9 : 6 ≤ d) {w : Wd} {r : (Int32 × Wd)} (hr : f_X9_fields w = some r) : Con d yX9_fields cX9_fields 1 (some .int) [.ref 0] w (some (.int r.1)) r.2 := by
  refine Con_of (by decide) (Nat.le_of_ble_eq_true rfl) (fun X hX hE => ?_)
  have hX : bOk cX9_fields 1 RX9 d X := hX
  show bV X 0 [some (.ref 0)] [] w
  obtain ⟨d, rfl⟩ : ∃ e, d = e + 1 := ⟨d - 1, by omega⟩
  unfold f_X9_fields at hr
  refine V_aload_n hX dX9_fields_0 rfl rfl ?_
  refine G_RX9_46 hX dX9_fields_1 ?_
  obtain ⟨q1, hq1, hr⟩ := bnd hr
  refine C_RX9_170 hX (c_X1_howManyFields (by omega) hq1) (Nat.le_of_ble_eq_true rfl) dX9_fields_4 ?_
  cases hr
  exact V_iret hX hE rfl dX9_fields_7
def f_X9_ploughed (p0 : Int32) (p1 : Int32) (w : Wd) : Option (Int32 × Wd) := Option.bind (f_X9_within p0 0 2000 w) fun q1 =>
    if q1.1 = 0 then
      (some ((-3), q1.2))
    else
      (Option.bind (f_X9_within p1 0 1 q1.2) fun q2 =>
      if q2.1 = 0 then
        (some ((-3), q2.2))
      else
        (Option.bind (f_X8_settle q2.2) fun q3 =>
        if q3.1 = 0 then
          (some ((-1), q3.2))
        else
          (Option.bind (f_X3_yardsIn p0 p1 q3.2) fun q4 =>
          some (q4.1, q4.2))))
set_option maxRecDepth 100000 in
set_option maxHeartbeats 4000000 in
theorem c_X9_ploughed {d : Nat} (hd9 : 5 ≤ d) {p0 : Int32} {p1 : Int32} {w : Wd} {r : (Int32 × Wd)} (hr : f_X9_ploughed p0 p1 w = some r) : Con d yX9_ploughed cX9_ploughed 3 (some .int) [.ref 0, .int p0, .int p1] w (some (.int r.1)) r.2 := by
  refine Con_of (by decide) (Nat.le_of_ble_eq_true rfl) (fun X hX hE => ?_)
  have hX : bOk cX9_ploughed 3 RX9 d X := hX
  show bV X 0 [some (.ref 0), some (.int p0), some (.int p1)] [] w
  obtain ⟨d, rfl⟩ : ∃ e, d = e + 1 := ⟨d - 1, by omega⟩
  unfold f_X9_ploughed at hr
  refine V_iload_n hX dX9_ploughed_0 rfl rfl ?_
  refine V_iconst hX dX9_ploughed_1 ic_0 ?_
  refine V_sipush hX dX9_ploughed_2 sp_2000 ?_
  obtain ⟨q1, hq1, hr⟩ := bnd hr
  refine C_RX9_78 hX (c_X9_within (by omega) hq1) (Nat.le_of_ble_eq_true rfl) dX9_ploughed_5 ?_
  refine V_if_eq (tgt := 20) hX dX9_ploughed_8 (by decide) (fun h8 => ?_) (fun h8 => ?_)
  · rw [if_pos h8] at hr
    refine V_bipush hX dX9_ploughed_20 bp_m3 ?_
    cases hr
    exact V_iret hX hE rfl dX9_ploughed_22
  · rw [if_neg h8] at hr
    refine V_iload_n hX dX9_ploughed_11 rfl rfl ?_
    refine V_iconst hX dX9_ploughed_12 ic_0 ?_
    refine V_iconst hX dX9_ploughed_13 ic_1 ?_
    obtain ⟨q2, hq2, hr⟩ := bnd hr
    refine C_RX9_78 hX (c_X9_within (by omega) hq2) (Nat.le_of_ble_eq_true rfl) dX9_ploughed_14 ?_
    refine V_if_ne (tgt := 23) hX dX9_ploughed_17 (by decide) (fun h17 => ?_) (fun h17 => ?_)
    · rw [if_neg h17] at hr
      refine V_aload_n hX dX9_ploughed_23 rfl rfl ?_
      refine G_RX9_37 hX dX9_ploughed_24 ?_
      obtain ⟨q3, hq3, hr⟩ := bnd hr
      refine C_RX9_125 hX (c_X8_settle (by omega) hq3) (Nat.le_of_ble_eq_true rfl) dX9_ploughed_27 ?_
      refine V_if_eq (tgt := 45) hX dX9_ploughed_30 (by decide) (fun h30 => ?_) (fun h30 => ?_)
      · rw [if_pos h30] at hr
        refine V_iconst hX dX9_ploughed_45 ic_m1 ?_
        cases hr
        exact V_iret hX hE rfl dX9_ploughed_46
      · rw [if_neg h30] at hr
        refine V_aload_n hX dX9_ploughed_33 rfl rfl ?_
        refine G_RX9_53 hX dX9_ploughed_34 ?_
        refine V_iload_n hX dX9_ploughed_37 rfl rfl ?_
        refine V_iload_n hX dX9_ploughed_38 rfl rfl ?_
        obtain ⟨q4, hq4, hr⟩ := bnd hr
        refine C_RX9_173 hX (c_X3_yardsIn (by omega) hq4) (Nat.le_of_ble_eq_true rfl) dX9_ploughed_39 ?_
        refine V_goto (tgt := 46) hX dX9_ploughed_42 (by decide) ?_
        cases hr
        exact V_iret hX hE rfl dX9_ploughed_46
    · rw [if_pos h17] at hr
      refine V_bipush hX dX9_ploughed_20 bp_m3 ?_
      cases hr
      exact V_iret hX hE rfl dX9_ploughed_22
def f_X9_peak (p0 : Int32) (w : Wd) : Option (Int32 × Wd) := Option.bind (f_X9_within p0 0 1 w) fun q1 =>
    if q1.1 = 0 then
      (some ((-3), q1.2))
    else
      (Option.bind (f_X8_settle q1.2) fun q2 =>
      if q2.1 = 0 then
        (some ((-1), q2.2))
      else
        (Option.bind (f_X3_yearOfMost q2.2) fun q3 =>
        if p0 = 0 then
          (some (q3.1, q3.2))
        else
          (Option.bind (f_X3_yardsIn q3.1 1 q3.2) fun q4 =>
          some (q4.1, q4.2))))
set_option maxRecDepth 100000 in
set_option maxHeartbeats 4000000 in
theorem c_X9_peak {d : Nat} (hd9 : 6 ≤ d) {p0 : Int32} {w : Wd} {r : (Int32 × Wd)} (hr : f_X9_peak p0 w = some r) : Con d yX9_peak cX9_peak 3 (some .int) [.ref 0, .int p0] w (some (.int r.1)) r.2 := by
  refine Con_of (by decide) (Nat.le_of_ble_eq_true rfl) (fun X hX hE => ?_)
  have hX : bOk cX9_peak 3 RX9 d X := hX
  show bV X 0 [some (.ref 0), some (.int p0), none] [] w
  obtain ⟨d, rfl⟩ : ∃ e, d = e + 1 := ⟨d - 1, by omega⟩
  unfold f_X9_peak at hr
  refine V_iload_n hX dX9_peak_0 rfl rfl ?_
  refine V_iconst hX dX9_peak_1 ic_0 ?_
  refine V_iconst hX dX9_peak_2 ic_1 ?_
  obtain ⟨q1, hq1, hr⟩ := bnd hr
  refine C_RX9_78 hX (c_X9_within (by omega) hq1) (Nat.le_of_ble_eq_true rfl) dX9_peak_3 ?_
  refine V_if_ne (tgt := 12) hX dX9_peak_6 (by decide) (fun h6 => ?_) (fun h6 => ?_)
  · rw [if_neg h6] at hr
    refine V_aload_n hX dX9_peak_12 rfl rfl ?_
    refine G_RX9_37 hX dX9_peak_13 ?_
    obtain ⟨q2, hq2, hr⟩ := bnd hr
    refine C_RX9_125 hX (c_X8_settle (by omega) hq2) (Nat.le_of_ble_eq_true rfl) dX9_peak_16 ?_
    refine V_if_ne (tgt := 24) hX dX9_peak_19 (by decide) (fun h19 => ?_) (fun h19 => ?_)
    · rw [if_neg h19] at hr
      refine V_aload_n hX dX9_peak_24 rfl rfl ?_
      refine G_RX9_53 hX dX9_peak_25 ?_
      obtain ⟨q3, hq3, hr⟩ := bnd hr
      refine C_RX9_176 hX (c_X3_yearOfMost (by omega) hq3) (Nat.le_of_ble_eq_true rfl) dX9_peak_28 ?_
      refine V_istore_n hX dX9_peak_31 rfl (Nat.le_of_ble_eq_true rfl) rfl ?_
      refine V_iload_n hX dX9_peak_32 rfl rfl ?_
      refine V_if_ne (tgt := 40) hX dX9_peak_33 (by decide) (fun h33 => ?_) (fun h33 => ?_)
      · rw [if_neg h33] at hr
        refine V_aload_n hX dX9_peak_40 rfl rfl ?_
        refine G_RX9_53 hX dX9_peak_41 ?_
        refine V_iload_n hX dX9_peak_44 rfl rfl ?_
        refine V_iconst hX dX9_peak_45 ic_1 ?_
        obtain ⟨q4, hq4, hr⟩ := bnd hr
        refine C_RX9_173 hX (c_X3_yardsIn (by omega) hq4) (Nat.le_of_ble_eq_true rfl) dX9_peak_46 ?_
        cases hr
        exact V_iret hX hE rfl dX9_peak_49
      · rw [if_pos h33] at hr
        refine V_iload_n hX dX9_peak_36 rfl rfl ?_
        refine V_goto (tgt := 49) hX dX9_peak_37 (by decide) ?_
        cases hr
        exact V_iret hX hE rfl dX9_peak_49
    · rw [if_pos h19] at hr
      refine V_iconst hX dX9_peak_22 ic_m1 ?_
      cases hr
      exact V_iret hX hE rfl dX9_peak_23
  · rw [if_pos h6] at hr
    refine V_bipush hX dX9_peak_9 bp_m3 ?_
    cases hr
    exact V_iret hX hE rfl dX9_peak_11
def f_X9_terrier (p0 : Int32) (p1 : Int32) (p2 : Int32) (w : Wd) : Option (Int32 × Wd) := Option.bind (f_X9_within p0 0 4 w) fun q1 =>
    if q1.1 = 0 then
      (some ((-2), q1.2))
    else
      (Option.bind (f_X9_within p1 0 30 q1.2) fun q2 =>
      if q2.1 = 0 then
        (some ((-3), q2.2))
      else
        (Option.bind (f_X9_within p2 0 31 q2.2) fun q3 =>
        if q3.1 = 0 then
          (some ((-3), q3.2))
        else
          (Option.bind (f_X5_tell p0 p1 p2 q3.2) fun q4 =>
          some (1, q4))))
set_option maxRecDepth 100000 in
set_option maxHeartbeats 4000000 in
theorem c_X9_terrier {d : Nat} (hd9 : 2 ≤ d) {p0 : Int32} {p1 : Int32} {p2 : Int32} {w : Wd} {r : (Int32 × Wd)} (hr : f_X9_terrier p0 p1 p2 w = some r) : Con d yX9_terrier cX9_terrier 4 (some .int) [.ref 0, .int p0, .int p1, .int p2] w (some (.int r.1)) r.2 := by
  refine Con_of (by decide) (Nat.le_of_ble_eq_true rfl) (fun X hX hE => ?_)
  have hX : bOk cX9_terrier 4 RX9 d X := hX
  show bV X 0 [some (.ref 0), some (.int p0), some (.int p1), some (.int p2)] [] w
  obtain ⟨d, rfl⟩ : ∃ e, d = e + 1 := ⟨d - 1, by omega⟩
  unfold f_X9_terrier at hr
  refine V_iload_n hX dX9_terrier_0 rfl rfl ?_
  refine V_iconst hX dX9_terrier_1 ic_0 ?_
  refine V_iconst hX dX9_terrier_2 ic_4 ?_
  obtain ⟨q1, hq1, hr⟩ := bnd hr
  refine C_RX9_78 hX (c_X9_within (by omega) hq1) (Nat.le_of_ble_eq_true rfl) dX9_terrier_3 ?_
  refine V_if_ne (tgt := 12) hX dX9_terrier_6 (by decide) (fun h6 => ?_) (fun h6 => ?_)
  · rw [if_neg h6] at hr
    refine V_iload_n hX dX9_terrier_12 rfl rfl ?_
    refine V_iconst hX dX9_terrier_13 ic_0 ?_
    refine V_bipush hX dX9_terrier_14 bp_30 ?_
    obtain ⟨q2, hq2, hr⟩ := bnd hr
    refine C_RX9_78 hX (c_X9_within (by omega) hq2) (Nat.le_of_ble_eq_true rfl) dX9_terrier_16 ?_
    refine V_if_eq (tgt := 32) hX dX9_terrier_19 (by decide) (fun h19 => ?_) (fun h19 => ?_)
    · rw [if_pos h19] at hr
      refine V_bipush hX dX9_terrier_32 bp_m3 ?_
      cases hr
      exact V_iret hX hE rfl dX9_terrier_34
    · rw [if_neg h19] at hr
      refine V_iload_n hX dX9_terrier_22 rfl rfl ?_
      refine V_iconst hX dX9_terrier_23 ic_0 ?_
      refine V_bipush hX dX9_terrier_24 bp_31 ?_
      obtain ⟨q3, hq3, hr⟩ := bnd hr
      refine C_RX9_78 hX (c_X9_within (by omega) hq3) (Nat.le_of_ble_eq_true rfl) dX9_terrier_26 ?_
      refine V_if_ne (tgt := 35) hX dX9_terrier_29 (by decide) (fun h29 => ?_) (fun h29 => ?_)
      · rw [if_neg h29] at hr
        refine V_aload_n hX dX9_terrier_35 rfl rfl ?_
        refine G_RX9_60 hX dX9_terrier_36 ?_
        refine V_iload_n hX dX9_terrier_39 rfl rfl ?_
        refine V_iload_n hX dX9_terrier_40 rfl rfl ?_
        refine V_iload_n hX dX9_terrier_41 rfl rfl ?_
        obtain ⟨q4, hq4, hr⟩ := bnd hr
        refine C_RX9_179 hX (c_X5_tell (by omega) hq4) (Nat.le_of_ble_eq_true rfl) dX9_terrier_42 ?_
        refine V_iconst hX dX9_terrier_45 ic_1 ?_
        cases hr
        exact V_iret hX hE rfl dX9_terrier_46
      · rw [if_pos h29] at hr
        refine V_bipush hX dX9_terrier_32 bp_m3 ?_
        cases hr
        exact V_iret hX hE rfl dX9_terrier_34
  · rw [if_pos h6] at hr
    refine V_bipush hX dX9_terrier_9 bp_m2 ?_
    cases hr
    exact V_iret hX hE rfl dX9_terrier_11
def f_X9_given (p0 : Int32) (w : Wd) : Option (Int32 × Wd) := Option.bind (f_X9_within p0 (-2) 4 w) fun q1 =>
    if q1.1 = 0 then
      (some ((-3), q1.2))
    else
      (Option.bind (f_X5_giveAll q1.2) fun q2 =>
      Option.bind (f_X5_answer p0 q2) fun q3 =>
      some (q3.1, q3.2))
set_option maxRecDepth 100000 in
set_option maxHeartbeats 4000000 in
theorem c_X9_given {d : Nat} (hd9 : 10 ≤ d) {p0 : Int32} {w : Wd} {r : (Int32 × Wd)} (hr : f_X9_given p0 w = some r) : Con d yX9_given cX9_given 2 (some .int) [.ref 0, .int p0] w (some (.int r.1)) r.2 := by
  refine Con_of (by decide) (Nat.le_of_ble_eq_true rfl) (fun X hX hE => ?_)
  have hX : bOk cX9_given 2 RX9 d X := hX
  show bV X 0 [some (.ref 0), some (.int p0)] [] w
  obtain ⟨d, rfl⟩ : ∃ e, d = e + 1 := ⟨d - 1, by omega⟩
  unfold f_X9_given at hr
  refine V_iload_n hX dX9_given_0 rfl rfl ?_
  refine V_bipush hX dX9_given_1 bp_m2 ?_
  refine V_iconst hX dX9_given_3 ic_4 ?_
  obtain ⟨q1, hq1, hr⟩ := bnd hr
  refine C_RX9_78 hX (c_X9_within (by omega) hq1) (Nat.le_of_ble_eq_true rfl) dX9_given_4 ?_
  refine V_if_ne (tgt := 13) hX dX9_given_7 (by decide) (fun h7 => ?_) (fun h7 => ?_)
  · rw [if_neg h7] at hr
    refine V_aload_n hX dX9_given_13 rfl rfl ?_
    refine G_RX9_60 hX dX9_given_14 ?_
    obtain ⟨q2, hq2, hr⟩ := bnd hr
    refine C_RX9_183 hX (c_X5_giveAll (by omega) hq2) (Nat.le_of_ble_eq_true rfl) dX9_given_17 ?_
    refine V_aload_n hX dX9_given_20 rfl rfl ?_
    refine G_RX9_60 hX dX9_given_21 ?_
    refine V_iload_n hX dX9_given_24 rfl rfl ?_
    obtain ⟨q3, hq3, hr⟩ := bnd hr
    refine C_RX9_186 hX (c_X5_answer (by omega) hq3) (Nat.le_of_ble_eq_true rfl) dX9_given_25 ?_
    cases hr
    exact V_iret hX hE rfl dX9_given_28
  · rw [if_pos h7] at hr
    refine V_bipush hX dX9_given_10 bp_m3 ?_
    cases hr
    exact V_iret hX hE rfl dX9_given_12
def f_X9_holder (p0 : Int32) (p1 : Int32) (w : Wd) : Option (Int32 × Wd) := Option.bind (f_X9_within p0 0 29 w) fun q1 =>
    if q1.1 = 0 then
      (some ((-3), q1.2))
    else
      (Option.bind (f_X9_within p1 (-1) 9 q1.2) fun q2 =>
      if q2.1 = 0 then
        (some ((-3), q2.2))
      else
        (Option.bind (f_X7_tell p0 p1 q2.2) fun q3 =>
        some (q3.1, q3.2)))
set_option maxRecDepth 100000 in
set_option maxHeartbeats 4000000 in
theorem c_X9_holder {d : Nat} (hd9 : 2 ≤ d) {p0 : Int32} {p1 : Int32} {w : Wd} {r : (Int32 × Wd)} (hr : f_X9_holder p0 p1 w = some r) : Con d yX9_holder cX9_holder 3 (some .int) [.ref 0, .int p0, .int p1] w (some (.int r.1)) r.2 := by
  refine Con_of (by decide) (Nat.le_of_ble_eq_true rfl) (fun X hX hE => ?_)
  have hX : bOk cX9_holder 3 RX9 d X := hX
  show bV X 0 [some (.ref 0), some (.int p0), some (.int p1)] [] w
  obtain ⟨d, rfl⟩ : ∃ e, d = e + 1 := ⟨d - 1, by omega⟩
  unfold f_X9_holder at hr
  refine V_iload_n hX dX9_holder_0 rfl rfl ?_
  refine V_iconst hX dX9_holder_1 ic_0 ?_
  refine V_bipush hX dX9_holder_2 bp_29 ?_
  obtain ⟨q1, hq1, hr⟩ := bnd hr
  refine C_RX9_78 hX (c_X9_within (by omega) hq1) (Nat.le_of_ble_eq_true rfl) dX9_holder_4 ?_
  refine V_if_eq (tgt := 20) hX dX9_holder_7 (by decide) (fun h7 => ?_) (fun h7 => ?_)
  · rw [if_pos h7] at hr
    refine V_bipush hX dX9_holder_20 bp_m3 ?_
    cases hr
    exact V_iret hX hE rfl dX9_holder_22
  · rw [if_neg h7] at hr
    refine V_iload_n hX dX9_holder_10 rfl rfl ?_
    refine V_iconst hX dX9_holder_11 ic_m1 ?_
    refine V_bipush hX dX9_holder_12 bp_9 ?_
    obtain ⟨q2, hq2, hr⟩ := bnd hr
    refine C_RX9_78 hX (c_X9_within (by omega) hq2) (Nat.le_of_ble_eq_true rfl) dX9_holder_14 ?_
    refine V_if_ne (tgt := 23) hX dX9_holder_17 (by decide) (fun h17 => ?_) (fun h17 => ?_)
    · rw [if_neg h17] at hr
      refine V_aload_n hX dX9_holder_23 rfl rfl ?_
      refine G_RX9_67 hX dX9_holder_24 ?_
      refine V_iload_n hX dX9_holder_27 rfl rfl ?_
      refine V_iload_n hX dX9_holder_28 rfl rfl ?_
      obtain ⟨q3, hq3, hr⟩ := bnd hr
      refine C_RX9_189 hX (c_X7_tell (by omega) hq3) (Nat.le_of_ble_eq_true rfl) dX9_holder_29 ?_
      cases hr
      exact V_iret hX hE rfl dX9_holder_32
    · rw [if_pos h17] at hr
      refine V_bipush hX dX9_holder_20 bp_m3 ?_
      cases hr
      exact V_iret hX hE rfl dX9_holder_22
def f_X9_round (w : Wd) : Option (Int32 × Wd) := Option.bind (f_X7_leastRound w) fun q1 =>
    some (q1.1, q1.2)
set_option maxRecDepth 100000 in
set_option maxHeartbeats 4000000 in
theorem c_X9_round {d : Nat} (hd9 : 4 ≤ d) {w : Wd} {r : (Int32 × Wd)} (hr : f_X9_round w = some r) : Con d yX9_round cX9_round 1 (some .int) [.ref 0] w (some (.int r.1)) r.2 := by
  refine Con_of (by decide) (Nat.le_of_ble_eq_true rfl) (fun X hX hE => ?_)
  have hX : bOk cX9_round 1 RX9 d X := hX
  show bV X 0 [some (.ref 0)] [] w
  obtain ⟨d, rfl⟩ : ∃ e, d = e + 1 := ⟨d - 1, by omega⟩
  unfold f_X9_round at hr
  refine V_aload_n hX dX9_round_0 rfl rfl ?_
  refine G_RX9_67 hX dX9_round_1 ?_
  obtain ⟨q1, hq1, hr⟩ := bnd hr
  refine C_RX9_191 hX (c_X7_leastRound (by omega) hq1) (Nat.le_of_ble_eq_true rfl) dX9_round_4 ?_
  cases hr
  exact V_iret hX hE rfl dX9_round_7
def f_X9_whose (p0 : Int32) (w : Wd) : Option (Int32 × Wd) := Option.bind (f_X9_within p0 0 99 w) fun q1 =>
    if q1.1 = 0 then
      (some ((-3), q1.2))
    else
      (Option.bind (f_X7_holderByTurns p0 q1.2) fun q2 =>
      some (q2.1, q2.2))
set_option maxRecDepth 100000 in
set_option maxHeartbeats 4000000 in
theorem c_X9_whose {d : Nat} (hd9 : 5 ≤ d) {p0 : Int32} {w : Wd} {r : (Int32 × Wd)} (hr : f_X9_whose p0 w = some r) : Con d yX9_whose cX9_whose 2 (some .int) [.ref 0, .int p0] w (some (.int r.1)) r.2 := by
  refine Con_of (by decide) (Nat.le_of_ble_eq_true rfl) (fun X hX hE => ?_)
  have hX : bOk cX9_whose 2 RX9 d X := hX
  show bV X 0 [some (.ref 0), some (.int p0)] [] w
  obtain ⟨d, rfl⟩ : ∃ e, d = e + 1 := ⟨d - 1, by omega⟩
  unfold f_X9_whose at hr
  refine V_iload_n hX dX9_whose_0 rfl rfl ?_
  refine V_iconst hX dX9_whose_1 ic_0 ?_
  refine V_bipush hX dX9_whose_2 bp_99 ?_
  obtain ⟨q1, hq1, hr⟩ := bnd hr
  refine C_RX9_78 hX (c_X9_within (by omega) hq1) (Nat.le_of_ble_eq_true rfl) dX9_whose_4 ?_
  refine V_if_eq (tgt := 21) hX dX9_whose_7 (by decide) (fun h7 => ?_) (fun h7 => ?_)
  · rw [if_pos h7] at hr
    refine V_bipush hX dX9_whose_21 bp_m3 ?_
    cases hr
    exact V_iret hX hE rfl dX9_whose_23
  · rw [if_neg h7] at hr
    refine V_aload_n hX dX9_whose_10 rfl rfl ?_
    refine G_RX9_67 hX dX9_whose_11 ?_
    refine V_iload_n hX dX9_whose_14 rfl rfl ?_
    obtain ⟨q2, hq2, hr⟩ := bnd hr
    refine C_RX9_194 hX (c_X7_holderByTurns (by omega) hq2) (Nat.le_of_ble_eq_true rfl) dX9_whose_15 ?_
    refine V_goto (tgt := 23) hX dX9_whose_18 (by decide) ?_
    cases hr
    exact V_iret hX hE rfl dX9_whose_23
def f_X9_picture (p0 : Int32) (p1 : Int32) (p2 : Int32) (w : Wd) : Option (Int32 × Wd) := Option.bind (f_X9_within p0 0 1 w) fun q1 =>
    if q1.1 = 0 then
      (some ((-3), q1.2))
    else
      (Option.bind (f_X9_within p1 0 60 q1.2) fun q2 =>
      if q2.1 = 0 then
        (some ((-3), q2.2))
      else
        (Option.bind (f_X9_within p2 0 255 q2.2) fun q3 =>
        if q3.1 = 0 then
          (some ((-3), q3.2))
        else
          (Option.bind (f_X2_add p0 p1 p2 q3.2) fun q4 =>
          if q4.1 = 0 then
            (some ((-5), q4.2))
          else
            (some ((q4.2.1 29 4), q4.2)))))
set_option maxRecDepth 100000 in
set_option maxHeartbeats 4000000 in
theorem c_X9_picture {d : Nat} (hd9 : 2 ≤ d) {p0 : Int32} {p1 : Int32} {p2 : Int32} {w : Wd} {r : (Int32 × Wd)} (hr : f_X9_picture p0 p1 p2 w = some r) : Con d yX9_picture cX9_picture 4 (some .int) [.ref 0, .int p0, .int p1, .int p2] w (some (.int r.1)) r.2 := by
  refine Con_of (by decide) (Nat.le_of_ble_eq_true rfl) (fun X hX hE => ?_)
  have hX : bOk cX9_picture 4 RX9 d X := hX
  show bV X 0 [some (.ref 0), some (.int p0), some (.int p1), some (.int p2)] [] w
  obtain ⟨d, rfl⟩ : ∃ e, d = e + 1 := ⟨d - 1, by omega⟩
  unfold f_X9_picture at hr
  refine V_iload_n hX dX9_picture_0 rfl rfl ?_
  refine V_iconst hX dX9_picture_1 ic_0 ?_
  refine V_iconst hX dX9_picture_2 ic_1 ?_
  obtain ⟨q1, hq1, hr⟩ := bnd hr
  refine C_RX9_78 hX (c_X9_within (by omega) hq1) (Nat.le_of_ble_eq_true rfl) dX9_picture_3 ?_
  refine V_if_eq (tgt := 30) hX dX9_picture_6 (by decide) (fun h6 => ?_) (fun h6 => ?_)
  · rw [if_pos h6] at hr
    refine V_bipush hX dX9_picture_30 bp_m3 ?_
    cases hr
    exact V_iret hX hE rfl dX9_picture_32
  · rw [if_neg h6] at hr
    refine V_iload_n hX dX9_picture_9 rfl rfl ?_
    refine V_iconst hX dX9_picture_10 ic_0 ?_
    refine V_bipush hX dX9_picture_11 bp_60 ?_
    obtain ⟨q2, hq2, hr⟩ := bnd hr
    refine C_RX9_78 hX (c_X9_within (by omega) hq2) (Nat.le_of_ble_eq_true rfl) dX9_picture_13 ?_
    refine V_if_eq (tgt := 30) hX dX9_picture_16 (by decide) (fun h16 => ?_) (fun h16 => ?_)
    · rw [if_pos h16] at hr
      refine V_bipush hX dX9_picture_30 bp_m3 ?_
      cases hr
      exact V_iret hX hE rfl dX9_picture_32
    · rw [if_neg h16] at hr
      refine V_iload_n hX dX9_picture_19 rfl rfl ?_
      refine V_iconst hX dX9_picture_20 ic_0 ?_
      refine V_sipush hX dX9_picture_21 sp_255 ?_
      obtain ⟨q3, hq3, hr⟩ := bnd hr
      refine C_RX9_78 hX (c_X9_within (by omega) hq3) (Nat.le_of_ble_eq_true rfl) dX9_picture_24 ?_
      refine V_if_ne (tgt := 33) hX dX9_picture_27 (by decide) (fun h27 => ?_) (fun h27 => ?_)
      · rw [if_neg h27] at hr
        refine V_aload_n hX dX9_picture_33 rfl rfl ?_
        refine G_RX9_74 hX dX9_picture_34 ?_
        refine V_iload_n hX dX9_picture_37 rfl rfl ?_
        refine V_iload_n hX dX9_picture_38 rfl rfl ?_
        refine V_iload_n hX dX9_picture_39 rfl rfl ?_
        obtain ⟨q4, hq4, hr⟩ := bnd hr
        refine C_RX9_197 hX (c_X2_add (by omega) hq4) (Nat.le_of_ble_eq_true rfl) dX9_picture_40 ?_
        refine V_if_eq (tgt := 56) hX dX9_picture_43 (by decide) (fun h43 => ?_) (fun h43 => ?_)
        · rw [if_pos h43] at hr
          refine V_bipush hX dX9_picture_56 bp_m5 ?_
          cases hr
          exact V_iret hX hE rfl dX9_picture_58
        · rw [if_neg h43] at hr
          refine V_aload_n hX dX9_picture_46 rfl rfl ?_
          refine G_RX9_74 hX dX9_picture_47 ?_
          refine G_RX9_199 hX dX9_picture_50 ?_
          refine V_goto (tgt := 58) hX dX9_picture_53 (by decide) ?_
          cases hr
          exact V_iret hX hE rfl dX9_picture_58
      · rw [if_pos h27] at hr
        refine V_bipush hX dX9_picture_30 bp_m3 ?_
        cases hr
        exact V_iret hX hE rfl dX9_picture_32
def f_X9_shows (p0 : Int32) (p1 : Int32) (w : Wd) : Option (Int32 × Wd) := Option.bind (f_X9_within p0 0 ((w.1 29 4) - 1) w) fun q1 =>
    if q1.1 = 0 then
      (some ((-2), q1.2))
    else
      (Option.bind (f_X0_isBundle p1 q1.2) fun q2 =>
      if q2.1 = 0 then
        (some ((-2), q2.2))
      else
        (Option.bind (f_X2_shouldShow p0 p1 q2.2) fun q3 =>
        Option.bind (f_X9_oneIf q3.1 q3.2) fun q4 =>
        some (q4.1, q4.2)))
set_option maxRecDepth 100000 in
set_option maxHeartbeats 4000000 in
theorem c_X9_shows {d : Nat} (hd9 : 3 ≤ d) {p0 : Int32} {p1 : Int32} {w : Wd} {r : (Int32 × Wd)} (hr : f_X9_shows p0 p1 w = some r) : Con d yX9_shows cX9_shows 3 (some .int) [.ref 0, .int p0, .int p1] w (some (.int r.1)) r.2 := by
  refine Con_of (by decide) (Nat.le_of_ble_eq_true rfl) (fun X hX hE => ?_)
  have hX : bOk cX9_shows 3 RX9 d X := hX
  show bV X 0 [some (.ref 0), some (.int p0), some (.int p1)] [] w
  obtain ⟨d, rfl⟩ : ∃ e, d = e + 1 := ⟨d - 1, by omega⟩
  unfold f_X9_shows at hr
  refine V_iload_n hX dX9_shows_0 rfl rfl ?_
  refine V_iconst hX dX9_shows_1 ic_0 ?_
  refine V_aload_n hX dX9_shows_2 rfl rfl ?_
  refine G_RX9_74 hX dX9_shows_3 ?_
  refine G_RX9_199 hX dX9_shows_6 ?_
  refine V_iconst hX dX9_shows_9 ic_1 ?_
  refine V_isub hX dX9_shows_10 ?_
  obtain ⟨q1, hq1, hr⟩ := bnd hr
  refine C_RX9_78 hX (c_X9_within (by omega) hq1) (Nat.le_of_ble_eq_true rfl) dX9_shows_11 ?_
  refine V_if_eq (tgt := 28) hX dX9_shows_14 (by decide) (fun h14 => ?_) (fun h14 => ?_)
  · rw [if_pos h14] at hr
    refine V_bipush hX dX9_shows_28 bp_m2 ?_
    cases hr
    exact V_iret hX hE rfl dX9_shows_30
  · rw [if_neg h14] at hr
    refine V_aload_n hX dX9_shows_17 rfl rfl ?_
    refine G_RX9_28 hX dX9_shows_18 ?_
    refine V_iload_n hX dX9_shows_21 rfl rfl ?_
    obtain ⟨q2, hq2, hr⟩ := bnd hr
    refine C_RX9_105 hX (c_X0_isBundle (by omega) hq2) (Nat.le_of_ble_eq_true rfl) dX9_shows_22 ?_
    refine V_if_ne (tgt := 31) hX dX9_shows_25 (by decide) (fun h25 => ?_) (fun h25 => ?_)
    · rw [if_neg h25] at hr
      refine V_aload_n hX dX9_shows_31 rfl rfl ?_
      refine G_RX9_74 hX dX9_shows_32 ?_
      refine V_iload_n hX dX9_shows_35 rfl rfl ?_
      refine V_iload_n hX dX9_shows_36 rfl rfl ?_
      obtain ⟨q3, hq3, hr⟩ := bnd hr
      refine C_RX9_202 hX (c_X2_shouldShow (by omega) hq3) (Nat.le_of_ble_eq_true rfl) dX9_shows_37 ?_
      obtain ⟨q4, hq4, hr⟩ := bnd hr
      refine C_RX9_145 hX (c_X9_oneIf (by omega) hq4) (Nat.le_of_ble_eq_true rfl) dX9_shows_40 ?_
      cases hr
      exact V_iret hX hE rfl dX9_shows_43
    · rw [if_pos h25] at hr
      refine V_bipush hX dX9_shows_28 bp_m2 ?_
      cases hr
      exact V_iret hX hE rfl dX9_shows_30
def f_X9_seen (p0 : Int32) (w : Wd) : Option (Int32 × Wd) := if p0 = 0 then
      (Option.bind (f_X2_flat w) fun q1 =>
      some (q1.1, q1.2))
    else if p0 = 1 then
      (Option.bind (f_X2_standing w) fun q1 =>
      some (q1.1, q1.2))
    else if p0 = 2 then
      (Option.bind (f_X2_bestSun w) fun q1 =>
      some (q1.1, q1.2))
    else (some ((-3), w))
set_option maxRecDepth 100000 in
set_option maxHeartbeats 4000000 in
theorem c_X9_seen {d : Nat} (hd9 : 6 ≤ d) {p0 : Int32} {w : Wd} {r : (Int32 × Wd)} (hr : f_X9_seen p0 w = some r) : Con d yX9_seen cX9_seen 2 (some .int) [.ref 0, .int p0] w (some (.int r.1)) r.2 := by
  refine Con_of (by decide) (Nat.le_of_ble_eq_true rfl) (fun X hX hE => ?_)
  have hX : bOk cX9_seen 2 RX9 d X := hX
  show bV X 0 [some (.ref 0), some (.int p0)] [] w
  obtain ⟨d, rfl⟩ : ∃ e, d = e + 1 := ⟨d - 1, by omega⟩
  unfold f_X9_seen at hr
  refine V_iload_n hX dX9_seen_0 rfl rfl ?_
  by_cases hs0 : p0 = 0
  · rw [if_pos hs0] at hr
    refine V_tableIn (tgt := 28) hX dX9_seen_1 (by rw [hs0]; decide) (by rw [hs0]; decide) (by rw [hs0]; rfl) (by decide) ?_
    refine V_aload_n hX dX9_seen_28 rfl rfl ?_
    refine G_RX9_74 hX dX9_seen_29 ?_
    obtain ⟨q1, hq1, hr⟩ := bnd hr
    refine C_RX9_205 hX (c_X2_flat (by omega) hq1) (Nat.le_of_ble_eq_true rfl) dX9_seen_32 ?_
    cases hr
    exact V_iret hX hE rfl dX9_seen_35
  rw [if_neg hs0] at hr
  by_cases hs1 : p0 = 1
  · rw [if_pos hs1] at hr
    refine V_tableIn (tgt := 36) hX dX9_seen_1 (by rw [hs1]; decide) (by rw [hs1]; decide) (by rw [hs1]; rfl) (by decide) ?_
    refine V_aload_n hX dX9_seen_36 rfl rfl ?_
    refine G_RX9_74 hX dX9_seen_37 ?_
    obtain ⟨q1, hq1, hr⟩ := bnd hr
    refine C_RX9_208 hX (c_X2_standing (by omega) hq1) (Nat.le_of_ble_eq_true rfl) dX9_seen_40 ?_
    cases hr
    exact V_iret hX hE rfl dX9_seen_43
  rw [if_neg hs1] at hr
  by_cases hs2 : p0 = 2
  · rw [if_pos hs2] at hr
    refine V_tableIn (tgt := 44) hX dX9_seen_1 (by rw [hs2]; decide) (by rw [hs2]; decide) (by rw [hs2]; rfl) (by decide) ?_
    refine V_aload_n hX dX9_seen_44 rfl rfl ?_
    refine G_RX9_74 hX dX9_seen_45 ?_
    obtain ⟨q1, hq1, hr⟩ := bnd hr
    refine C_RX9_211 hX (c_X2_bestSun (by omega) hq1) (Nat.le_of_ble_eq_true rfl) dX9_seen_48 ?_
    cases hr
    exact V_iret hX hE rfl dX9_seen_51
  rw [if_neg hs2] at hr
  refine V_tableOut (tgt := 52) hX dX9_seen_1 (tb_out 2 (fun j hj => by rcases (show j = 0 ∨ j = 1 ∨ j = 2 by omega) with rfl | rfl | rfl <;> assumption)) (by decide) ?_
  refine V_bipush hX dX9_seen_52 bp_m3 ?_
  cases hr
  exact V_iret hX hE rfl dX9_seen_54
def f_X9_count (p0 : Int32) (w : Wd) : Option (Int32 × Wd) := if p0 = 0 then
      (Option.bind (f_X0_toldBundles w) fun q1 =>
      Option.bind (f_J6_bitCount_0f7a4 q1.1 q1.2) fun q2 =>
      some (q2.1, q2.2))
    else if p0 = 1 then
      (Option.bind (f_J6_bitCount_0f7a4 ((w.1 5 0) &&& (-256)) w) fun q1 =>
      some (q1.1, q1.2))
    else if p0 = 2 then
      (some ((w.1 5 6), w))
    else if p0 = 3 then
      (Option.bind (f_J6_bitCount_0f7a4 (w.1 5 7) w) fun q1 =>
      some (q1.1, q1.2))
    else if p0 = 4 then
      (some ((w.1 1 1), w))
    else if p0 = 5 then
      (Option.bind (f_X5_howManyTold w) fun q1 =>
      some (q1.1, q1.2))
    else if p0 = 6 then
      (some ((w.1 29 4), w))
    else if p0 = 7 then
      (some ((w.1 5 9), w))
    else if p0 = 8 then
      (some ((w.1 5 10), w))
    else (some ((-3), w))
set_option maxRecDepth 100000 in
set_option maxHeartbeats 4000000 in
theorem c_X9_count {d : Nat} (hd9 : 3 ≤ d) {p0 : Int32} {w : Wd} {r : (Int32 × Wd)} (hr : f_X9_count p0 w = some r) : Con d yX9_count cX9_count 2 (some .int) [.ref 0, .int p0] w (some (.int r.1)) r.2 := by
  refine Con_of (by decide) (Nat.le_of_ble_eq_true rfl) (fun X hX hE => ?_)
  have hX : bOk cX9_count 2 RX9 d X := hX
  show bV X 0 [some (.ref 0), some (.int p0)] [] w
  obtain ⟨d, rfl⟩ : ∃ e, d = e + 1 := ⟨d - 1, by omega⟩
  unfold f_X9_count at hr
  refine V_iload_n hX dX9_count_0 rfl rfl ?_
  by_cases hs0 : p0 = 0
  · rw [if_pos hs0] at hr
    refine V_tableIn (tgt := 52) hX dX9_count_1 (by rw [hs0]; decide) (by rw [hs0]; decide) (by rw [hs0]; rfl) (by decide) ?_
    refine V_aload_n hX dX9_count_52 rfl rfl ?_
    refine G_RX9_28 hX dX9_count_53 ?_
    obtain ⟨q1, hq1, hr⟩ := bnd hr
    refine C_RX9_214 hX (c_X0_toldBundles (by omega) hq1) (Nat.le_of_ble_eq_true rfl) dX9_count_56 ?_
    obtain ⟨q2, hq2, hr⟩ := bnd hr
    refine C_RX9_217 hX (c_J6_bitCount_0f7a4 (by omega) hq2) (Nat.le_of_ble_eq_true rfl) dX9_count_59 ?_
    cases hr
    exact V_iret hX hE rfl dX9_count_62
  rw [if_neg hs0] at hr
  by_cases hs1 : p0 = 1
  · rw [if_pos hs1] at hr
    refine V_tableIn (tgt := 63) hX dX9_count_1 (by rw [hs1]; decide) (by rw [hs1]; decide) (by rw [hs1]; rfl) (by decide) ?_
    refine V_aload_n hX dX9_count_63 rfl rfl ?_
    refine G_RX9_28 hX dX9_count_64 ?_
    refine G_RX9_222 hX dX9_count_67 ?_
    refine V_sipush hX dX9_count_70 sp_m256 ?_
    refine V_iand hX dX9_count_73 ?_
    obtain ⟨q1, hq1, hr⟩ := bnd hr
    refine C_RX9_217 hX (c_J6_bitCount_0f7a4 (by omega) hq1) (Nat.le_of_ble_eq_true rfl) dX9_count_74 ?_
    cases hr
    exact V_iret hX hE rfl dX9_count_77
  rw [if_neg hs1] at hr
  by_cases hs2 : p0 = 2
  · rw [if_pos hs2] at hr
    refine V_tableIn (tgt := 78) hX dX9_count_1 (by rw [hs2]; decide) (by rw [hs2]; decide) (by rw [hs2]; rfl) (by decide) ?_
    refine V_aload_n hX dX9_count_78 rfl rfl ?_
    refine G_RX9_28 hX dX9_count_79 ?_
    refine G_RX9_225 hX dX9_count_82 ?_
    cases hr
    exact V_iret hX hE rfl dX9_count_85
  rw [if_neg hs2] at hr
  by_cases hs3 : p0 = 3
  · rw [if_pos hs3] at hr
    refine V_tableIn (tgt := 86) hX dX9_count_1 (by rw [hs3]; decide) (by rw [hs3]; decide) (by rw [hs3]; rfl) (by decide) ?_
    refine V_aload_n hX dX9_count_86 rfl rfl ?_
    refine G_RX9_28 hX dX9_count_87 ?_
    refine G_RX9_228 hX dX9_count_90 ?_
    obtain ⟨q1, hq1, hr⟩ := bnd hr
    refine C_RX9_217 hX (c_J6_bitCount_0f7a4 (by omega) hq1) (Nat.le_of_ble_eq_true rfl) dX9_count_93 ?_
    cases hr
    exact V_iret hX hE rfl dX9_count_96
  rw [if_neg hs3] at hr
  by_cases hs4 : p0 = 4
  · rw [if_pos hs4] at hr
    refine V_tableIn (tgt := 97) hX dX9_count_1 (by rw [hs4]; decide) (by rw [hs4]; decide) (by rw [hs4]; rfl) (by decide) ?_
    refine V_aload_n hX dX9_count_97 rfl rfl ?_
    refine G_RX9_10 hX dX9_count_98 ?_
    refine G_RX9_90 hX dX9_count_101 ?_
    cases hr
    exact V_iret hX hE rfl dX9_count_104
  rw [if_neg hs4] at hr
  by_cases hs5 : p0 = 5
  · rw [if_pos hs5] at hr
    refine V_tableIn (tgt := 105) hX dX9_count_1 (by rw [hs5]; decide) (by rw [hs5]; decide) (by rw [hs5]; rfl) (by decide) ?_
    refine V_aload_n hX dX9_count_105 rfl rfl ?_
    refine G_RX9_60 hX dX9_count_106 ?_
    obtain ⟨q1, hq1, hr⟩ := bnd hr
    refine C_RX9_231 hX (c_X5_howManyTold (by omega) hq1) (Nat.le_of_ble_eq_true rfl) dX9_count_109 ?_
    cases hr
    exact V_iret hX hE rfl dX9_count_112
  rw [if_neg hs5] at hr
  by_cases hs6 : p0 = 6
  · rw [if_pos hs6] at hr
    refine V_tableIn (tgt := 113) hX dX9_count_1 (by rw [hs6]; decide) (by rw [hs6]; decide) (by rw [hs6]; rfl) (by decide) ?_
    refine V_aload_n hX dX9_count_113 rfl rfl ?_
    refine G_RX9_74 hX dX9_count_114 ?_
    refine G_RX9_199 hX dX9_count_117 ?_
    cases hr
    exact V_iret hX hE rfl dX9_count_120
  rw [if_neg hs6] at hr
  by_cases hs7 : p0 = 7
  · rw [if_pos hs7] at hr
    refine V_tableIn (tgt := 121) hX dX9_count_1 (by rw [hs7]; decide) (by rw [hs7]; decide) (by rw [hs7]; rfl) (by decide) ?_
    refine V_aload_n hX dX9_count_121 rfl rfl ?_
    refine G_RX9_28 hX dX9_count_122 ?_
    refine G_RX9_234 hX dX9_count_125 ?_
    cases hr
    exact V_iret hX hE rfl dX9_count_128
  rw [if_neg hs7] at hr
  by_cases hs8 : p0 = 8
  · rw [if_pos hs8] at hr
    refine V_tableIn (tgt := 129) hX dX9_count_1 (by rw [hs8]; decide) (by rw [hs8]; decide) (by rw [hs8]; rfl) (by decide) ?_
    refine V_aload_n hX dX9_count_129 rfl rfl ?_
    refine G_RX9_28 hX dX9_count_130 ?_
    refine G_RX9_237 hX dX9_count_133 ?_
    cases hr
    exact V_iret hX hE rfl dX9_count_136
  rw [if_neg hs8] at hr
  refine V_tableOut (tgt := 137) hX dX9_count_1 (tb_out 8 (fun j hj => by rcases (show j = 0 ∨ j = 1 ∨ j = 2 ∨ j = 3 ∨ j = 4 ∨ j = 5 ∨ j = 6 ∨ j = 7 ∨ j = 8 by omega) with rfl | rfl | rfl | rfl | rfl | rfl | rfl | rfl | rfl <;> assumption)) (by decide) ?_
  refine V_bipush hX dX9_count_137 bp_m3 ?_
  cases hr
  exact V_iret hX hE rfl dX9_count_139
