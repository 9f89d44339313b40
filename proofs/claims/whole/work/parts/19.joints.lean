def f_X1_areAlike (p0 : Int32) (p1 : Int32) (p2 : Int32) (w : Wd) : Option (Int32 × Wd) := Option.bind (f_X0_part p0 p2 w) fun q1 =>
    Option.bind (f_X0_part p1 p2 q1.2) fun q2 =>
    if q1.1 = q2.1 then
      (some (1, q2.2))
    else
      (some (0, q2.2))
set_option maxRecDepth 100000 in
set_option maxHeartbeats 4000000 in
theorem c_X1_areAlike {d : Nat} (hd9 : 2 ≤ d) {p0 : Int32} {p1 : Int32} {p2 : Int32} {w : Wd} {r : (Int32 × Wd)} (hr : f_X1_areAlike p0 p1 p2 w = some r) : Con d yX1_areAlike cX1_areAlike 4 (some .boolean) [.ref 17, .int p0, .int p1, .int p2] w (some (.int r.1)) r.2 := by
  refine Con_of (by decide) (Nat.le_of_ble_eq_true rfl) (fun X hX hE => ?_)
  have hX : bOk cX1_areAlike 4 RX1 d X := hX
  show bV X 0 [some (.ref 17), some (.int p0), some (.int p1), some (.int p2)] [] w
  obtain ⟨d, rfl⟩ : ∃ e, d = e + 1 := ⟨d - 1, by omega⟩
  unfold f_X1_areAlike at hr
  refine V_aload_n hX dX1_areAlike_0 rfl rfl ?_
  refine G_RX1_15 hX dX1_areAlike_1 ?_
  refine V_iload_n hX dX1_areAlike_4 rfl rfl ?_
  refine V_iload_n hX dX1_areAlike_5 rfl rfl ?_
  obtain ⟨q1, hq1, hr⟩ := bnd hr
  refine C_RX1_23 hX (c_X0_part (by omega) hq1) (Nat.le_of_ble_eq_true rfl) dX1_areAlike_6 ?_
  refine V_aload_n hX dX1_areAlike_9 rfl rfl ?_
  refine G_RX1_15 hX dX1_areAlike_10 ?_
  refine V_iload_n hX dX1_areAlike_13 rfl rfl ?_
  refine V_iload_n hX dX1_areAlike_14 rfl rfl ?_
  obtain ⟨q2, hq2, hr⟩ := bnd hr
  refine C_RX1_23 hX (c_X0_part (by omega) hq2) (Nat.le_of_ble_eq_true rfl) dX1_areAlike_15 ?_
  refine V_icmp_ne (tgt := 25) hX dX1_areAlike_18 (by decide) (fun h18 => ?_) (fun h18 => ?_)
  · rw [if_neg h18] at hr
    refine V_iconst hX dX1_areAlike_25 ic_0 ?_
    cases hr
    exact V_iret hX hE rfl dX1_areAlike_26
  · rw [if_pos h18] at hr
    refine V_iconst hX dX1_areAlike_21 ic_1 ?_
    refine V_goto (tgt := 26) hX dX1_areAlike_22 (by decide) ?_
    cases hr
    exact V_iret hX hE rfl dX1_areAlike_26
def f_X1_wouldDo (p0 : Int32) (p1 : Int32) (w : Wd) : Option (Int32 × Wd) := if (w.1 5 9) < (jmin p0 (p1 - p0)) then
      (some (0, w))
    else
      (some (1, w))
set_option maxRecDepth 100000 in
set_option maxHeartbeats 4000000 in
theorem c_X1_wouldDo {d : Nat} (hd9 : 1 ≤ d) {p0 : Int32} {p1 : Int32} {w : Wd} {r : (Int32 × Wd)} (hr : f_X1_wouldDo p0 p1 w = some r) : Con d yX1_wouldDo cX1_wouldDo 3 (some .boolean) [.ref 17, .int p0, .int p1] w (some (.int r.1)) r.2 := by
  refine Con_of (by decide) (Nat.le_of_ble_eq_true rfl) (fun X hX hE => ?_)
  have hX : bOk cX1_wouldDo 3 RX1 d X := hX
  show bV X 0 [some (.ref 17), some (.int p0), some (.int p1)] [] w
  obtain ⟨d, rfl⟩ : ∃ e, d = e + 1 := ⟨d - 1, by omega⟩
  unfold f_X1_wouldDo at hr
  refine V_iload_n hX dX1_wouldDo_0 rfl rfl ?_
  refine V_iload_n hX dX1_wouldDo_1 rfl rfl ?_
  refine V_iload_n hX dX1_wouldDo_2 rfl rfl ?_
  refine V_isub hX dX1_wouldDo_3 ?_
  refine V_mmin hX mt_RX1_63 (by omega) (Nat.le_of_ble_eq_true rfl) dX1_wouldDo_4 ?_
  refine V_aload_n hX dX1_wouldDo_7 rfl rfl ?_
  refine G_RX1_15 hX dX1_wouldDo_8 ?_
  refine G_RX1_66 hX dX1_wouldDo_11 ?_
  refine V_icmp_gt (tgt := 21) hX dX1_wouldDo_14 (by decide) (fun h14 => ?_) (fun h14 => ?_)
  · rw [if_pos h14] at hr
    refine V_iconst hX dX1_wouldDo_21 ic_0 ?_
    cases hr
    exact V_iret hX hE rfl dX1_wouldDo_22
  · rw [if_neg h14] at hr
    refine V_iconst hX dX1_wouldDo_17 ic_1 ?_
    refine V_goto (tgt := 22) hX dX1_wouldDo_18 (by decide) ?_
    cases hr
    exact V_iret hX hE rfl dX1_wouldDo_22
def f_X1_areInLine (p0 : Int32) (p1 : Int32) (w : Wd) : Option (Int32 × Wd) := Option.bind (f_X0_part p0 2 w) fun q1 =>
    Option.bind (f_X0_begins p0 (1 - q1.1) q1.2) fun q2 =>
    Option.bind (f_X0_begins p1 (1 - q1.1) q2.2) fun q3 =>
    Option.bind (f_X0_part p0 4 q3.2) fun q4 =>
    Option.bind (f_X9_remainder (jabs (q2.1 - q3.1)) q4.1 q4.2) fun q5 =>
    Option.bind (f_X1_wouldDo q5.1 q4.1 q5.2) fun q6 =>
    if bo q6.1 then some (q6.1, q6.2) else none
set_option maxRecDepth 100000 in
set_option maxHeartbeats 4000000 in
theorem c_X1_areInLine {d : Nat} (hd9 : 2 ≤ d) {p0 : Int32} {p1 : Int32} {w : Wd} {r : (Int32 × Wd)} (hr : f_X1_areInLine p0 p1 w = some r) : Con d yX1_areInLine cX1_areInLine 6 (some .boolean) [.ref 17, .int p0, .int p1] w (some (.int r.1)) r.2 := by
  refine Con_of (by decide) (Nat.le_of_ble_eq_true rfl) (fun X hX hE => ?_)
  have hX : bOk cX1_areInLine 6 RX1 d X := hX
  show bV X 0 [some (.ref 17), some (.int p0), some (.int p1), none, none, none] [] w
  obtain ⟨d, rfl⟩ : ∃ e, d = e + 1 := ⟨d - 1, by omega⟩
  unfold f_X1_areInLine at hr
  refine V_iconst hX dX1_areInLine_0 ic_1 ?_
  refine V_aload_n hX dX1_areInLine_1 rfl rfl ?_
  refine G_RX1_15 hX dX1_areInLine_2 ?_
  refine V_iload_n hX dX1_areInLine_5 rfl rfl ?_
  refine V_iconst hX dX1_areInLine_6 ic_2 ?_
  obtain ⟨q1, hq1, hr⟩ := bnd hr
  refine C_RX1_23 hX (c_X0_part (by omega) hq1) (Nat.le_of_ble_eq_true rfl) dX1_areInLine_7 ?_
  refine V_isub hX dX1_areInLine_10 ?_
  refine V_istore_n hX dX1_areInLine_11 rfl (Nat.le_of_ble_eq_true rfl) rfl ?_
  refine V_aload_n hX dX1_areInLine_12 rfl rfl ?_
  refine G_RX1_15 hX dX1_areInLine_13 ?_
  refine V_iload_n hX dX1_areInLine_16 rfl rfl ?_
  refine V_iload_n hX dX1_areInLine_17 rfl rfl ?_
  obtain ⟨q2, hq2, hr⟩ := bnd hr
  refine C_RX1_48 hX (c_X0_begins (by omega) hq2) (Nat.le_of_ble_eq_true rfl) dX1_areInLine_18 ?_
  refine V_aload_n hX dX1_areInLine_21 rfl rfl ?_
  refine G_RX1_15 hX dX1_areInLine_22 ?_
  refine V_iload_n hX dX1_areInLine_25 rfl rfl ?_
  refine V_iload_n hX dX1_areInLine_26 rfl rfl ?_
  obtain ⟨q3, hq3, hr⟩ := bnd hr
  refine C_RX1_48 hX (c_X0_begins (by omega) hq3) (Nat.le_of_ble_eq_true rfl) dX1_areInLine_27 ?_
  refine V_isub hX dX1_areInLine_30 ?_
  refine V_mabs hX mt_RX1_51 (by omega) (Nat.le_of_ble_eq_true rfl) dX1_areInLine_31 ?_
  refine V_istore hX dX1_areInLine_34 (Nat.le_of_ble_eq_true rfl) rfl ?_
  refine V_aload_n hX dX1_areInLine_36 rfl rfl ?_
  refine G_RX1_15 hX dX1_areInLine_37 ?_
  refine V_iload_n hX dX1_areInLine_40 rfl rfl ?_
  refine V_iconst hX dX1_areInLine_41 ic_4 ?_
  obtain ⟨q4, hq4, hr⟩ := bnd hr
  refine C_RX1_23 hX (c_X0_part (by omega) hq4) (Nat.le_of_ble_eq_true rfl) dX1_areInLine_42 ?_
  refine V_istore hX dX1_areInLine_45 (Nat.le_of_ble_eq_true rfl) rfl ?_
  refine V_aload_n hX dX1_areInLine_47 rfl rfl ?_
  refine V_iload hX dX1_areInLine_48 rfl ?_
  refine V_iload hX dX1_areInLine_50 rfl ?_
  obtain ⟨q5, hq5, hr⟩ := bnd hr
  refine C_RX1_57 hX (c_X9_remainder (by omega) hq5) (Nat.le_of_ble_eq_true rfl) dX1_areInLine_52 ?_
  refine V_iload hX dX1_areInLine_55 rfl ?_
  obtain ⟨q6, hq6, hr⟩ := bnd hr
  refine C_RX1_60 hX (c_X1_wouldDo (by omega) hq6) (Nat.le_of_ble_eq_true rfl) dX1_areInLine_57 ?_
  obtain ⟨hbo, hr⟩ := ifn hr
  cases hr
  exact V_iret hX hE (bo_nar hbo) dX1_areInLine_60
def f_X1_areJoined (p0 : Int32) (p1 : Int32) (w : Wd) : Option (Int32 × Wd) := Option.bind (f_X0_part p0 2 w) fun q1 =>
    Option.bind (f_X1_areAlike p0 p1 2 q1.2) fun q2 =>
    if q2.1 = 0 then
      (some (0, q2.2))
    else
      (Option.bind (f_X1_areAlike p0 p1 4 q2.2) fun q3 =>
      if q3.1 = 0 then
        (some (0, q3.2))
      else
        (Option.bind (f_X1_areAlike p0 p1 6 q3.2) fun q4 =>
        if q4.1 = 0 then
          (some (0, q4.2))
        else
          (Option.bind (f_X1_areAlike p0 p1 7 q4.2) fun q5 =>
          if q5.1 = 0 then
            (some (0, q5.2))
          else
            (Option.bind (f_X0_yardsBetween p0 p1 q1.1 q5.2) fun q6 =>
            Option.bind (f_X9_within q6.1 0 (q6.2.1 5 10) q6.2) fun q7 =>
            if q7.1 = 0 then
              (some (0, q7.2))
            else
              (Option.bind (f_X0_yardsBetween p0 p1 (1 - q1.1) q7.2) fun q8 =>
              if 0 ≤ q8.1 then
                (some (0, q8.2))
              else
                (Option.bind (f_X1_areInLine p0 p1 q8.2) fun q9 =>
                if q9.1 = 0 then
                  (some (0, q9.2))
                else
                  (some (1, q9.2))))))))
set_option maxRecDepth 100000 in
set_option maxHeartbeats 4000000 in
theorem c_X1_areJoined {d : Nat} (hd9 : 3 ≤ d) {p0 : Int32} {p1 : Int32} {w : Wd} {r : (Int32 × Wd)} (hr : f_X1_areJoined p0 p1 w = some r) : Con d yX1_areJoined cX1_areJoined 4 (some .boolean) [.ref 17, .int p0, .int p1] w (some (.int r.1)) r.2 := by
  refine Con_of (by decide) (Nat.le_of_ble_eq_true rfl) (fun X hX hE => ?_)
  have hX : bOk cX1_areJoined 4 RX1 d X := hX
  show bV X 0 [some (.ref 17), some (.int p0), some (.int p1), none] [] w
  obtain ⟨d, rfl⟩ : ∃ e, d = e + 1 := ⟨d - 1, by omega⟩
  unfold f_X1_areJoined at hr
  refine V_aload_n hX dX1_areJoined_0 rfl rfl ?_
  refine G_RX1_15 hX dX1_areJoined_1 ?_
  refine V_iload_n hX dX1_areJoined_4 rfl rfl ?_
  refine V_iconst hX dX1_areJoined_5 ic_2 ?_
  obtain ⟨q1, hq1, hr⟩ := bnd hr
  refine C_RX1_23 hX (c_X0_part (by omega) hq1) (Nat.le_of_ble_eq_true rfl) dX1_areJoined_6 ?_
  refine V_istore_n hX dX1_areJoined_9 rfl (Nat.le_of_ble_eq_true rfl) rfl ?_
  refine V_aload_n hX dX1_areJoined_10 rfl rfl ?_
  refine V_iload_n hX dX1_areJoined_11 rfl rfl ?_
  refine V_iload_n hX dX1_areJoined_12 rfl rfl ?_
  refine V_iconst hX dX1_areJoined_13 ic_2 ?_
  obtain ⟨q2, hq2, hr⟩ := bnd hr
  refine C_RX1_29 hX (c_X1_areAlike (by omega) hq2) (Nat.le_of_ble_eq_true rfl) dX1_areJoined_14 ?_
  refine V_if_eq (tgt := 104) hX dX1_areJoined_17 (by decide) (fun h17 => ?_) (fun h17 => ?_)
  · rw [if_pos h17] at hr
    refine V_iconst hX dX1_areJoined_104 ic_0 ?_
    cases hr
    exact V_iret hX hE rfl dX1_areJoined_105
  · rw [if_neg h17] at hr
    refine V_aload_n hX dX1_areJoined_20 rfl rfl ?_
    refine V_iload_n hX dX1_areJoined_21 rfl rfl ?_
    refine V_iload_n hX dX1_areJoined_22 rfl rfl ?_
    refine V_iconst hX dX1_areJoined_23 ic_4 ?_
    obtain ⟨q3, hq3, hr⟩ := bnd hr
    refine C_RX1_29 hX (c_X1_areAlike (by omega) hq3) (Nat.le_of_ble_eq_true rfl) dX1_areJoined_24 ?_
    refine V_if_eq (tgt := 104) hX dX1_areJoined_27 (by decide) (fun h27 => ?_) (fun h27 => ?_)
    · rw [if_pos h27] at hr
      refine V_iconst hX dX1_areJoined_104 ic_0 ?_
      cases hr
      exact V_iret hX hE rfl dX1_areJoined_105
    · rw [if_neg h27] at hr
      refine V_aload_n hX dX1_areJoined_30 rfl rfl ?_
      refine V_iload_n hX dX1_areJoined_31 rfl rfl ?_
      refine V_iload_n hX dX1_areJoined_32 rfl rfl ?_
      refine V_bipush hX dX1_areJoined_33 bp_6 ?_
      obtain ⟨q4, hq4, hr⟩ := bnd hr
      refine C_RX1_29 hX (c_X1_areAlike (by omega) hq4) (Nat.le_of_ble_eq_true rfl) dX1_areJoined_35 ?_
      refine V_if_eq (tgt := 104) hX dX1_areJoined_38 (by decide) (fun h38 => ?_) (fun h38 => ?_)
      · rw [if_pos h38] at hr
        refine V_iconst hX dX1_areJoined_104 ic_0 ?_
        cases hr
        exact V_iret hX hE rfl dX1_areJoined_105
      · rw [if_neg h38] at hr
        refine V_aload_n hX dX1_areJoined_41 rfl rfl ?_
        refine V_iload_n hX dX1_areJoined_42 rfl rfl ?_
        refine V_iload_n hX dX1_areJoined_43 rfl rfl ?_
        refine V_bipush hX dX1_areJoined_44 bp_7 ?_
        obtain ⟨q5, hq5, hr⟩ := bnd hr
        refine C_RX1_29 hX (c_X1_areAlike (by omega) hq5) (Nat.le_of_ble_eq_true rfl) dX1_areJoined_46 ?_
        refine V_if_eq (tgt := 104) hX dX1_areJoined_49 (by decide) (fun h49 => ?_) (fun h49 => ?_)
        · rw [if_pos h49] at hr
          refine V_iconst hX dX1_areJoined_104 ic_0 ?_
          cases hr
          exact V_iret hX hE rfl dX1_areJoined_105
        · rw [if_neg h49] at hr
          refine V_aload_n hX dX1_areJoined_52 rfl rfl ?_
          refine G_RX1_15 hX dX1_areJoined_53 ?_
          refine V_iload_n hX dX1_areJoined_56 rfl rfl ?_
          refine V_iload_n hX dX1_areJoined_57 rfl rfl ?_
          refine V_iload_n hX dX1_areJoined_58 rfl rfl ?_
          obtain ⟨q6, hq6, hr⟩ := bnd hr
          refine C_RX1_33 hX (c_X0_yardsBetween (by omega) hq6) (Nat.le_of_ble_eq_true rfl) dX1_areJoined_59 ?_
          refine V_iconst hX dX1_areJoined_62 ic_0 ?_
          refine V_aload_n hX dX1_areJoined_63 rfl rfl ?_
          refine G_RX1_15 hX dX1_areJoined_64 ?_
          refine G_RX1_37 hX dX1_areJoined_67 ?_
          obtain ⟨q7, hq7, hr⟩ := bnd hr
          refine C_RX1_41 hX (c_X9_within (by omega) hq7) (Nat.le_of_ble_eq_true rfl) dX1_areJoined_70 ?_
          refine V_if_eq (tgt := 104) hX dX1_areJoined_73 (by decide) (fun h73 => ?_) (fun h73 => ?_)
          · rw [if_pos h73] at hr
            refine V_iconst hX dX1_areJoined_104 ic_0 ?_
            cases hr
            exact V_iret hX hE rfl dX1_areJoined_105
          · rw [if_neg h73] at hr
            refine V_aload_n hX dX1_areJoined_76 rfl rfl ?_
            refine G_RX1_15 hX dX1_areJoined_77 ?_
            refine V_iload_n hX dX1_areJoined_80 rfl rfl ?_
            refine V_iload_n hX dX1_areJoined_81 rfl rfl ?_
            refine V_iconst hX dX1_areJoined_82 ic_1 ?_
            refine V_iload_n hX dX1_areJoined_83 rfl rfl ?_
            refine V_isub hX dX1_areJoined_84 ?_
            obtain ⟨q8, hq8, hr⟩ := bnd hr
            refine C_RX1_33 hX (c_X0_yardsBetween (by omega) hq8) (Nat.le_of_ble_eq_true rfl) dX1_areJoined_85 ?_
            refine V_if_ge (tgt := 104) hX dX1_areJoined_88 (by decide) (fun h88 => ?_) (fun h88 => ?_)
            · rw [if_pos h88] at hr
              refine V_iconst hX dX1_areJoined_104 ic_0 ?_
              cases hr
              exact V_iret hX hE rfl dX1_areJoined_105
            · rw [if_neg h88] at hr
              refine V_aload_n hX dX1_areJoined_91 rfl rfl ?_
              refine V_iload_n hX dX1_areJoined_92 rfl rfl ?_
              refine V_iload_n hX dX1_areJoined_93 rfl rfl ?_
              obtain ⟨q9, hq9, hr⟩ := bnd hr
              refine C_RX1_44 hX (c_X1_areInLine (by omega) hq9) (Nat.le_of_ble_eq_true rfl) dX1_areJoined_94 ?_
              refine V_if_eq (tgt := 104) hX dX1_areJoined_97 (by decide) (fun h97 => ?_) (fun h97 => ?_)
              · rw [if_pos h97] at hr
                refine V_iconst hX dX1_areJoined_104 ic_0 ?_
                cases hr
                exact V_iret hX hE rfl dX1_areJoined_105
              · rw [if_neg h97] at hr
                refine V_iconst hX dX1_areJoined_100 ic_1 ?_
                refine V_goto (tgt := 105) hX dX1_areJoined_101 (by decide) ?_
                cases hr
                exact V_iret hX hE rfl dX1_areJoined_105
def f_X1_coversSome (p0 : Int32) (p1 : Int32) (p2 : Int32) (p3 : Int32) (w : Wd) : Option (Int32 × Wd) := Option.bind (f_X0_begins p0 p1 w) fun q1 =>
    Option.bind (f_X0_ends p0 p1 q1.2) fun q2 =>
    if (jmin q2.1 p3) ≤ (jmax q1.1 p2) then
      (some (0, q2.2))
    else
      (some (1, q2.2))
set_option maxRecDepth 100000 in
set_option maxHeartbeats 4000000 in
theorem c_X1_coversSome {d : Nat} (hd9 : 2 ≤ d) {p0 : Int32} {p1 : Int32} {p2 : Int32} {p3 : Int32} {w : Wd} {r : (Int32 × Wd)} (hr : f_X1_coversSome p0 p1 p2 p3 w = some r) : Con d yX1_coversSome cX1_coversSome 5 (some .boolean) [.ref 17, .int p0, .int p1, .int p2, .int p3] w (some (.int r.1)) r.2 := by
  refine Con_of (by decide) (Nat.le_of_ble_eq_true rfl) (fun X hX hE => ?_)
  have hX : bOk cX1_coversSome 5 RX1 d X := hX
  show bV X 0 [some (.ref 17), some (.int p0), some (.int p1), some (.int p2), some (.int p3)] [] w
  obtain ⟨d, rfl⟩ : ∃ e, d = e + 1 := ⟨d - 1, by omega⟩
  unfold f_X1_coversSome at hr
  refine V_aload_n hX dX1_coversSome_0 rfl rfl ?_
  refine G_RX1_15 hX dX1_coversSome_1 ?_
  refine V_iload_n hX dX1_coversSome_4 rfl rfl ?_
  refine V_iload_n hX dX1_coversSome_5 rfl rfl ?_
  obtain ⟨q1, hq1, hr⟩ := bnd hr
  refine C_RX1_48 hX (c_X0_begins (by omega) hq1) (Nat.le_of_ble_eq_true rfl) dX1_coversSome_6 ?_
  refine V_iload_n hX dX1_coversSome_9 rfl rfl ?_
  refine V_mmax hX mt_RX1_72 (by omega) (Nat.le_of_ble_eq_true rfl) dX1_coversSome_10 ?_
  refine V_aload_n hX dX1_coversSome_13 rfl rfl ?_
  refine G_RX1_15 hX dX1_coversSome_14 ?_
  refine V_iload_n hX dX1_coversSome_17 rfl rfl ?_
  refine V_iload_n hX dX1_coversSome_18 rfl rfl ?_
  obtain ⟨q2, hq2, hr⟩ := bnd hr
  refine C_RX1_69 hX (c_X0_ends (by omega) hq2) (Nat.le_of_ble_eq_true rfl) dX1_coversSome_19 ?_
  refine V_iload hX dX1_coversSome_22 rfl ?_
  refine V_mmin hX mt_RX1_63 (by omega) (Nat.le_of_ble_eq_true rfl) dX1_coversSome_24 ?_
  refine V_icmp_ge (tgt := 34) hX dX1_coversSome_27 (by decide) (fun h27 => ?_) (fun h27 => ?_)
  · rw [if_pos h27] at hr
    refine V_iconst hX dX1_coversSome_34 ic_0 ?_
    cases hr
    exact V_iret hX hE rfl dX1_coversSome_35
  · rw [if_neg h27] at hr
    refine V_iconst hX dX1_coversSome_30 ic_1 ?_
    refine V_goto (tgt := 35) hX dX1_coversSome_31 (by decide) ?_
    cases hr
    exact V_iret hX hE rfl dX1_coversSome_35
def f_X1_marksBetween_118 : Nat → Int32 → Int32 → Int32 → Int32 → Int32 → Int32 → Int32 → Int32 → Wd → Option (Int32 × Wd)
  | 0, _, _, _, _, _, _, _, _, _ => none
  | n + 1, x3, x4, x5, x6, x7, x8, x9, x10, w => if 14 ≤ x10 then
        (some (x9, w))
      else
        (Option.bind (f_X0_isThing x10 w) fun q1 =>
        if q1.1 = 0 then
          (f_X1_marksBetween_118 n x3 x4 x5 x6 x7 x8 x9 (x10 + 1) q1.2)
        else
          (Option.bind (f_X1_coversSome x10 x3 x5 x6 q1.2) fun q2 =>
          if q2.1 = 0 then
            (f_X1_marksBetween_118 n x3 x4 x5 x6 x7 x8 x9 (x10 + 1) q2.2)
          else
            (Option.bind (f_X1_coversSome x10 x4 x7 x8 q2.2) fun q3 =>
            if q3.1 = 0 then
              (f_X1_marksBetween_118 n x3 x4 x5 x6 x7 x8 x9 (x10 + 1) q3.2)
            else
              (f_X1_marksBetween_118 n x3 x4 x5 x6 x7 x8 (x9 ||| (jshl 1 x10)) (x10 + 1) q3.2))))
def f_X1_marksBetween (p0 : Int32) (p1 : Int32) (w : Wd) : Option (Int32 × Wd) := Option.bind (f_X0_part p0 2 w) fun q1 =>
    Option.bind (f_X0_ends p0 q1.1 q1.2) fun q2 =>
    Option.bind (f_X0_ends p1 q1.1 q2.2) fun q3 =>
    Option.bind (f_X0_begins p0 q1.1 q3.2) fun q4 =>
    Option.bind (f_X0_begins p1 q1.1 q4.2) fun q5 =>
    Option.bind (f_X0_begins p0 (1 - q1.1) q5.2) fun q6 =>
    Option.bind (f_X0_begins p1 (1 - q1.1) q6.2) fun q7 =>
    Option.bind (f_X0_ends p0 (1 - q1.1) q7.2) fun q8 =>
    Option.bind (f_X0_ends p1 (1 - q1.1) q8.2) fun q9 =>
    f_X1_marksBetween_118 fu q1.1 (1 - q1.1) (jmin q2.1 q3.1) (jmax q4.1 q5.1) (jmin q6.1 q7.1) (jmax q8.1 q9.1) 0 8 q9.2
set_option maxRecDepth 100000 in
set_option maxHeartbeats 4000000 in
theorem v_X1_marksBetween_118 {d : Nat} (hd9 : 3 ≤ d) {X : bX} (hX : bOk cX1_marksBetween 11 RX1 d X) {r : (Int32 × Wd)} (hE : bEnd (some .int) (some (.int r.1)) r.2 X) : ∀ (n : Nat) (x3 : Int32) (x4 : Int32) (x5 : Int32) (x6 : Int32) (x7 : Int32) (x8 : Int32) (x9 : Int32) (x10 : Int32) (w : Wd), f_X1_marksBetween_118 n x3 x4 x5 x6 x7 x8 x9 x10 w = some r → bV X 118 [some (.ref 17), none, none, some (.int x3), some (.int x4), some (.int x5), some (.int x6), some (.int x7), some (.int x8), some (.int x9), some (.int x10)] [] w := by
  obtain ⟨d, rfl⟩ : ∃ e, d = e + 1 := ⟨d - 1, by omega⟩
  intro n
  induction n with
  | zero => intro x3 x4 x5 x6 x7 x8 x9 x10 w hr; exact absurd hr (by simp [f_X1_marksBetween_118])
  | succ n ih =>
    intro x3 x4 x5 x6 x7 x8 x9 x10 w hr
    rw [f_X1_marksBetween_118] at hr
    refine V_iload hX dX1_marksBetween_118 rfl ?_
    refine V_bipush hX dX1_marksBetween_120 bp_14 ?_
    refine V_icmp_ge (tgt := 181) hX dX1_marksBetween_122 (by decide) (fun h122 => ?_) (fun h122 => ?_)
    · rw [if_pos h122] at hr
      refine V_iload hX dX1_marksBetween_181 rfl ?_
      cases hr
      exact V_iret hX hE rfl dX1_marksBetween_183
    · rw [if_neg h122] at hr
      refine V_aload_n hX dX1_marksBetween_125 rfl rfl ?_
      refine G_RX1_15 hX dX1_marksBetween_126 ?_
      refine V_iload hX dX1_marksBetween_129 rfl ?_
      obtain ⟨q1, hq1, hr⟩ := bnd hr
      refine C_RX1_75 hX (c_X0_isThing (by omega) hq1) (Nat.le_of_ble_eq_true rfl) dX1_marksBetween_131 ?_
      refine V_if_eq (tgt := 175) hX dX1_marksBetween_134 (by decide) (fun h134 => ?_) (fun h134 => ?_)
      · rw [if_pos h134] at hr
        refine V_iinc hX dX1_marksBetween_175 rfl (ii_1 _) (Nat.le_of_ble_eq_true rfl) rfl ?_
        refine V_goto (tgt := 118) hX dX1_marksBetween_178 (by decide) ?_
        refine V_mask [true, false, false, true, true, true, true, true, true, true, true] ?_
        exact ih _ _ _ _ _ _ _ _ _ hr
      · rw [if_neg h134] at hr
        refine V_aload_n hX dX1_marksBetween_137 rfl rfl ?_
        refine V_iload hX dX1_marksBetween_138 rfl ?_
        refine V_iload_n hX dX1_marksBetween_140 rfl rfl ?_
        refine V_iload hX dX1_marksBetween_141 rfl ?_
        refine V_iload hX dX1_marksBetween_143 rfl ?_
        obtain ⟨q2, hq2, hr⟩ := bnd hr
        refine C_RX1_79 hX (c_X1_coversSome (by omega) hq2) (Nat.le_of_ble_eq_true rfl) dX1_marksBetween_145 ?_
        refine V_if_eq (tgt := 175) hX dX1_marksBetween_148 (by decide) (fun h148 => ?_) (fun h148 => ?_)
        · rw [if_pos h148] at hr
          refine V_iinc hX dX1_marksBetween_175 rfl (ii_1 _) (Nat.le_of_ble_eq_true rfl) rfl ?_
          refine V_goto (tgt := 118) hX dX1_marksBetween_178 (by decide) ?_
          refine V_mask [true, false, false, true, true, true, true, true, true, true, true] ?_
          exact ih _ _ _ _ _ _ _ _ _ hr
        · rw [if_neg h148] at hr
          refine V_aload_n hX dX1_marksBetween_151 rfl rfl ?_
          refine V_iload hX dX1_marksBetween_152 rfl ?_
          refine V_iload hX dX1_marksBetween_154 rfl ?_
          refine V_iload hX dX1_marksBetween_156 rfl ?_
          refine V_iload hX dX1_marksBetween_158 rfl ?_
          obtain ⟨q3, hq3, hr⟩ := bnd hr
          refine C_RX1_79 hX (c_X1_coversSome (by omega) hq3) (Nat.le_of_ble_eq_true rfl) dX1_marksBetween_160 ?_
          refine V_if_eq (tgt := 175) hX dX1_marksBetween_163 (by decide) (fun h163 => ?_) (fun h163 => ?_)
          · rw [if_pos h163] at hr
            refine V_iinc hX dX1_marksBetween_175 rfl (ii_1 _) (Nat.le_of_ble_eq_true rfl) rfl ?_
            refine V_goto (tgt := 118) hX dX1_marksBetween_178 (by decide) ?_
            refine V_mask [true, false, false, true, true, true, true, true, true, true, true] ?_
            exact ih _ _ _ _ _ _ _ _ _ hr
          · rw [if_neg h163] at hr
            refine V_iload hX dX1_marksBetween_166 rfl ?_
            refine V_iconst hX dX1_marksBetween_168 ic_1 ?_
            refine V_iload hX dX1_marksBetween_169 rfl ?_
            refine V_ishl hX dX1_marksBetween_171 ?_
            refine V_ior hX dX1_marksBetween_172 ?_
            refine V_istore hX dX1_marksBetween_173 (Nat.le_of_ble_eq_true rfl) rfl ?_
            refine V_iinc hX dX1_marksBetween_175 rfl (ii_1 _) (Nat.le_of_ble_eq_true rfl) rfl ?_
            refine V_goto (tgt := 118) hX dX1_marksBetween_178 (by decide) ?_
            refine V_mask [true, false, false, true, true, true, true, true, true, true, true] ?_
            exact ih _ _ _ _ _ _ _ _ _ hr
set_option maxRecDepth 100000 in
set_option maxHeartbeats 4000000 in
theorem c_X1_marksBetween {d : Nat} (hd9 : 3 ≤ d) {p0 : Int32} {p1 : Int32} {w : Wd} {r : (Int32 × Wd)} (hr : f_X1_marksBetween p0 p1 w = some r) : Con d yX1_marksBetween cX1_marksBetween 11 (some .int) [.ref 17, .int p0, .int p1] w (some (.int r.1)) r.2 := by
  refine Con_of (by decide) (Nat.le_of_ble_eq_true rfl) (fun X hX hE => ?_)
  have hX : bOk cX1_marksBetween 11 RX1 d X := hX
  show bV X 0 [some (.ref 17), some (.int p0), some (.int p1), none, none, none, none, none, none, none, none] [] w
  obtain ⟨d, rfl⟩ : ∃ e, d = e + 1 := ⟨d - 1, by omega⟩
  unfold f_X1_marksBetween at hr
  refine V_aload_n hX dX1_marksBetween_0 rfl rfl ?_
  refine G_RX1_15 hX dX1_marksBetween_1 ?_
  refine V_iload_n hX dX1_marksBetween_4 rfl rfl ?_
  refine V_iconst hX dX1_marksBetween_5 ic_2 ?_
  obtain ⟨q1, hq1, hr⟩ := bnd hr
  refine C_RX1_23 hX (c_X0_part (by omega) hq1) (Nat.le_of_ble_eq_true rfl) dX1_marksBetween_6 ?_
  refine V_istore_n hX dX1_marksBetween_9 rfl (Nat.le_of_ble_eq_true rfl) rfl ?_
  refine V_iconst hX dX1_marksBetween_10 ic_1 ?_
  refine V_iload_n hX dX1_marksBetween_11 rfl rfl ?_
  refine V_isub hX dX1_marksBetween_12 ?_
  refine V_istore hX dX1_marksBetween_13 (Nat.le_of_ble_eq_true rfl) rfl ?_
  refine V_aload_n hX dX1_marksBetween_15 rfl rfl ?_
  refine G_RX1_15 hX dX1_marksBetween_16 ?_
  refine V_iload_n hX dX1_marksBetween_19 rfl rfl ?_
  refine V_iload_n hX dX1_marksBetween_20 rfl rfl ?_
  obtain ⟨q2, hq2, hr⟩ := bnd hr
  refine C_RX1_69 hX (c_X0_ends (by omega) hq2) (Nat.le_of_ble_eq_true rfl) dX1_marksBetween_21 ?_
  refine V_aload_n hX dX1_marksBetween_24 rfl rfl ?_
  refine G_RX1_15 hX dX1_marksBetween_25 ?_
  refine V_iload_n hX dX1_marksBetween_28 rfl rfl ?_
  refine V_iload_n hX dX1_marksBetween_29 rfl rfl ?_
  obtain ⟨q3, hq3, hr⟩ := bnd hr
  refine C_RX1_69 hX (c_X0_ends (by omega) hq3) (Nat.le_of_ble_eq_true rfl) dX1_marksBetween_30 ?_
  refine V_mmin hX mt_RX1_63 (by omega) (Nat.le_of_ble_eq_true rfl) dX1_marksBetween_33 ?_
  refine V_istore hX dX1_marksBetween_36 (Nat.le_of_ble_eq_true rfl) rfl ?_
  refine V_aload_n hX dX1_marksBetween_38 rfl rfl ?_
  refine G_RX1_15 hX dX1_marksBetween_39 ?_
  refine V_iload_n hX dX1_marksBetween_42 rfl rfl ?_
  refine V_iload_n hX dX1_marksBetween_43 rfl rfl ?_
  obtain ⟨q4, hq4, hr⟩ := bnd hr
  refine C_RX1_48 hX (c_X0_begins (by omega) hq4) (Nat.le_of_ble_eq_true rfl) dX1_marksBetween_44 ?_
  refine V_aload_n hX dX1_marksBetween_47 rfl rfl ?_
  refine G_RX1_15 hX dX1_marksBetween_48 ?_
  refine V_iload_n hX dX1_marksBetween_51 rfl rfl ?_
  refine V_iload_n hX dX1_marksBetween_52 rfl rfl ?_
  obtain ⟨q5, hq5, hr⟩ := bnd hr
  refine C_RX1_48 hX (c_X0_begins (by omega) hq5) (Nat.le_of_ble_eq_true rfl) dX1_marksBetween_53 ?_
  refine V_mmax hX mt_RX1_72 (by omega) (Nat.le_of_ble_eq_true rfl) dX1_marksBetween_56 ?_
  refine V_istore hX dX1_marksBetween_59 (Nat.le_of_ble_eq_true rfl) rfl ?_
  refine V_aload_n hX dX1_marksBetween_61 rfl rfl ?_
  refine G_RX1_15 hX dX1_marksBetween_62 ?_
  refine V_iload_n hX dX1_marksBetween_65 rfl rfl ?_
  refine V_iload hX dX1_marksBetween_66 rfl ?_
  obtain ⟨q6, hq6, hr⟩ := bnd hr
  refine C_RX1_48 hX (c_X0_begins (by omega) hq6) (Nat.le_of_ble_eq_true rfl) dX1_marksBetween_68 ?_
  refine V_aload_n hX dX1_marksBetween_71 rfl rfl ?_
  refine G_RX1_15 hX dX1_marksBetween_72 ?_
  refine V_iload_n hX dX1_marksBetween_75 rfl rfl ?_
  refine V_iload hX dX1_marksBetween_76 rfl ?_
  obtain ⟨q7, hq7, hr⟩ := bnd hr
  refine C_RX1_48 hX (c_X0_begins (by omega) hq7) (Nat.le_of_ble_eq_true rfl) dX1_marksBetween_78 ?_
  refine V_mmin hX mt_RX1_63 (by omega) (Nat.le_of_ble_eq_true rfl) dX1_marksBetween_81 ?_
  refine V_istore hX dX1_marksBetween_84 (Nat.le_of_ble_eq_true rfl) rfl ?_
  refine V_aload_n hX dX1_marksBetween_86 rfl rfl ?_
  refine G_RX1_15 hX dX1_marksBetween_87 ?_
  refine V_iload_n hX dX1_marksBetween_90 rfl rfl ?_
  refine V_iload hX dX1_marksBetween_91 rfl ?_
  obtain ⟨q8, hq8, hr⟩ := bnd hr
  refine C_RX1_69 hX (c_X0_ends (by omega) hq8) (Nat.le_of_ble_eq_true rfl) dX1_marksBetween_93 ?_
  refine V_aload_n hX dX1_marksBetween_96 rfl rfl ?_
  refine G_RX1_15 hX dX1_marksBetween_97 ?_
  refine V_iload_n hX dX1_marksBetween_100 rfl rfl ?_
  refine V_iload hX dX1_marksBetween_101 rfl ?_
  obtain ⟨q9, hq9, hr⟩ := bnd hr
  refine C_RX1_69 hX (c_X0_ends (by omega) hq9) (Nat.le_of_ble_eq_true rfl) dX1_marksBetween_103 ?_
  refine V_mmax hX mt_RX1_72 (by omega) (Nat.le_of_ble_eq_true rfl) dX1_marksBetween_106 ?_
  refine V_istore hX dX1_marksBetween_109 (Nat.le_of_ble_eq_true rfl) rfl ?_
  refine V_iconst hX dX1_marksBetween_111 ic_0 ?_
  refine V_istore hX dX1_marksBetween_112 (Nat.le_of_ble_eq_true rfl) rfl ?_
  refine V_bipush hX dX1_marksBetween_114 bp_8 ?_
  refine V_istore hX dX1_marksBetween_116 (Nat.le_of_ble_eq_true rfl) rfl ?_
  refine V_mask [true, false, false, true, true, true, true, true, true, true, true] ?_
  exact v_X1_marksBetween_118 hd9 hX hE _ _ _ _ _ _ _ _ _ _ hr
def f_X1_commonDivisor_2 : Nat → Int32 → Int32 → Int32 → Wd → Option (Int32 × Wd)
  | 0, _, _, _, _ => none
  | n + 1, x0, x1, x2, w => if x2 ≤ 1 then
        (some (1, w))
      else
        (Option.bind (f_X9_remainder x0 x2 w) fun q1 =>
        if q1.1 = 0 then
          (Option.bind (f_X9_remainder x1 x2 q1.2) fun q2 =>
          if q2.1 = 0 then
            (some (x2, q2.2))
          else
            (f_X1_commonDivisor_2 n x0 x1 (x2 + (-1)) q2.2))
        else
          (f_X1_commonDivisor_2 n x0 x1 (x2 + (-1)) q1.2))
def f_X1_commonDivisor (p0 : Int32) (p1 : Int32) (w : Wd) : Option (Int32 × Wd) := f_X1_commonDivisor_2 fu p0 p1 p1 w
set_option maxRecDepth 100000 in
set_option maxHeartbeats 4000000 in
theorem v_X1_commonDivisor_2 {d : Nat} (hd9 : 1 ≤ d) {X : bX} (hX : bOk cX1_commonDivisor 3 RX1 d X) {r : (Int32 × Wd)} (hE : bEnd (some .int) (some (.int r.1)) r.2 X) : ∀ (n : Nat) (x0 : Int32) (x1 : Int32) (x2 : Int32) (w : Wd), f_X1_commonDivisor_2 n x0 x1 x2 w = some r → bV X 2 [some (.int x0), some (.int x1), some (.int x2)] [] w := by
  obtain ⟨d, rfl⟩ : ∃ e, d = e + 1 := ⟨d - 1, by omega⟩
  intro n
  induction n with
  | zero => intro x0 x1 x2 w hr; exact absurd hr (by simp [f_X1_commonDivisor_2])
  | succ n ih =>
    intro x0 x1 x2 w hr
    rw [f_X1_commonDivisor_2] at hr
    refine V_iload_n hX dX1_commonDivisor_2 rfl rfl ?_
    refine V_iconst hX dX1_commonDivisor_3 ic_1 ?_
    refine V_icmp_le (tgt := 31) hX dX1_commonDivisor_4 (by decide) (fun h4 => ?_) (fun h4 => ?_)
    · rw [if_pos h4] at hr
      refine V_iconst hX dX1_commonDivisor_31 ic_1 ?_
      cases hr
      exact V_iret hX hE rfl dX1_commonDivisor_32
    · rw [if_neg h4] at hr
      refine V_iload_n hX dX1_commonDivisor_7 rfl rfl ?_
      refine V_iload_n hX dX1_commonDivisor_8 rfl rfl ?_
      obtain ⟨q1, hq1, hr⟩ := bnd hr
      refine C_RX1_57 hX (c_X9_remainder (by omega) hq1) (Nat.le_of_ble_eq_true rfl) dX1_commonDivisor_9 ?_
      refine V_if_ne (tgt := 25) hX dX1_commonDivisor_12 (by decide) (fun h12 => ?_) (fun h12 => ?_)
      · rw [if_neg h12] at hr
        refine V_iinc hX dX1_commonDivisor_25 rfl (ii_m1 _) (Nat.le_of_ble_eq_true rfl) rfl ?_
        refine V_goto (tgt := 2) hX dX1_commonDivisor_28 (by decide) ?_
        refine V_mask [true, true, true] ?_
        exact ih _ _ _ _ hr
      · rw [if_pos h12] at hr
        refine V_iload_n hX dX1_commonDivisor_15 rfl rfl ?_
        refine V_iload_n hX dX1_commonDivisor_16 rfl rfl ?_
        obtain ⟨q2, hq2, hr⟩ := bnd hr
        refine C_RX1_57 hX (c_X9_remainder (by omega) hq2) (Nat.le_of_ble_eq_true rfl) dX1_commonDivisor_17 ?_
        refine V_if_ne (tgt := 25) hX dX1_commonDivisor_20 (by decide) (fun h20 => ?_) (fun h20 => ?_)
        · rw [if_neg h20] at hr
          refine V_iinc hX dX1_commonDivisor_25 rfl (ii_m1 _) (Nat.le_of_ble_eq_true rfl) rfl ?_
          refine V_goto (tgt := 2) hX dX1_commonDivisor_28 (by decide) ?_
          refine V_mask [true, true, true] ?_
          exact ih _ _ _ _ hr
        · rw [if_pos h20] at hr
          refine V_iload_n hX dX1_commonDivisor_23 rfl rfl ?_
          cases hr
          exact V_iret hX hE rfl dX1_commonDivisor_24
set_option maxRecDepth 100000 in
set_option maxHeartbeats 4000000 in
theorem c_X1_commonDivisor {d : Nat} (hd9 : 1 ≤ d) {p0 : Int32} {p1 : Int32} {w : Wd} {r : (Int32 × Wd)} (hr : f_X1_commonDivisor p0 p1 w = some r) : Con d yX1_commonDivisor cX1_commonDivisor 3 (some .int) [.int p0, .int p1] w (some (.int r.1)) r.2 := by
  refine Con_of (by decide) (Nat.le_of_ble_eq_true rfl) (fun X hX hE => ?_)
  have hX : bOk cX1_commonDivisor 3 RX1 d X := hX
  show bV X 0 [some (.int p0), some (.int p1), none] [] w
  obtain ⟨d, rfl⟩ : ∃ e, d = e + 1 := ⟨d - 1, by omega⟩
  unfold f_X1_commonDivisor at hr
  refine V_iload_n hX dX1_commonDivisor_0 rfl rfl ?_
  refine V_istore_n hX dX1_commonDivisor_1 rfl (Nat.le_of_ble_eq_true rfl) rfl ?_
  refine V_mask [true, true, true] ?_
  exact v_X1_commonDivisor_2 hd9 hX hE _ _ _ _ _ hr
def f_X1_oddsPart_16 : Nat → Int32 → Int32 → Int32 → Int32 → Wd → Option (Int32 × Wd)
  | 0, _, _, _, _, _ => none
  | n + 1, x2, x3, x4, x5, w => if x3 ≤ x5 then
        (Option.bind (f_X1_commonDivisor x4 x3 w) fun q1 =>
        if 1 ≤ q1.1 then
          (if x2 = 0 then
            (if q1.1 = 0 then none else some ((x4 / q1.1), q1.2))
          else
            (if q1.1 = 0 then none else some ((x3 / q1.1), q1.2)))
        else
          (some ((-1), q1.2)))
      else
        (Option.bind (f_X1_wouldDo x5 x3 w) fun q1 =>
        if q1.1 = 0 then
          (f_X1_oddsPart_16 n x2 x3 x4 (x5 + 1) q1.2)
        else
          (f_X1_oddsPart_16 n x2 x3 (x4 + 1) (x5 + 1) q1.2))
def f_X1_oddsPart (p0 : Int32) (p1 : Int32) (w : Wd) : Option (Int32 × Wd) := Option.bind (f_X0_part p0 4 w) fun q1 =>
    f_X1_oddsPart_16 fu p1 q1.1 0 0 q1.2
set_option maxRecDepth 100000 in
set_option maxHeartbeats 4000000 in
theorem v_X1_oddsPart_16 {d : Nat} (hd9 : 2 ≤ d) {X : bX} (hX : bOk cX1_oddsPart 6 RX1 d X) {r : (Int32 × Wd)} (hE : bEnd (some .int) (some (.int r.1)) r.2 X) : ∀ (n : Nat) (x2 : Int32) (x3 : Int32) (x4 : Int32) (x5 : Int32) (w : Wd), f_X1_oddsPart_16 n x2 x3 x4 x5 w = some r → bV X 16 [some (.ref 17), none, some (.int x2), some (.int x3), some (.int x4), some (.int x5)] [] w := by
  obtain ⟨d, rfl⟩ : ∃ e, d = e + 1 := ⟨d - 1, by omega⟩
  intro n
  induction n with
  | zero => intro x2 x3 x4 x5 w hr; exact absurd hr (by simp [f_X1_oddsPart_16])
  | succ n ih =>
    intro x2 x3 x4 x5 w hr
    rw [f_X1_oddsPart_16] at hr
    refine V_iload hX dX1_oddsPart_16 rfl ?_
    refine V_iload_n hX dX1_oddsPart_18 rfl rfl ?_
    refine V_icmp_ge (tgt := 41) hX dX1_oddsPart_19 (by decide) (fun h19 => ?_) (fun h19 => ?_)
    · rw [if_pos h19] at hr
      refine V_iload hX dX1_oddsPart_41 rfl ?_
      refine V_iload_n hX dX1_oddsPart_43 rfl rfl ?_
      obtain ⟨q1, hq1, hr⟩ := bnd hr
      refine C_RX1_83 hX (c_X1_commonDivisor (by omega) hq1) (Nat.le_of_ble_eq_true rfl) dX1_oddsPart_44 ?_
      refine V_istore hX dX1_oddsPart_47 (Nat.le_of_ble_eq_true rfl) rfl ?_
      refine V_iload hX dX1_oddsPart_49 rfl ?_
      refine V_iconst hX dX1_oddsPart_51 ic_1 ?_
      refine V_icmp_ge (tgt := 57) hX dX1_oddsPart_52 (by decide) (fun h52 => ?_) (fun h52 => ?_)
      · rw [if_pos h52] at hr
        refine V_iload_n hX dX1_oddsPart_57 rfl rfl ?_
        refine V_if_ne (tgt := 69) hX dX1_oddsPart_58 (by decide) (fun h58 => ?_) (fun h58 => ?_)
        · rw [if_neg h58] at hr
          refine V_iload_n hX dX1_oddsPart_69 rfl rfl ?_
          refine V_iload hX dX1_oddsPart_70 rfl ?_
          obtain ⟨hn72, hr⟩ := ifz hr
          refine V_idiv hX dX1_oddsPart_72 hn72 ?_
          cases hr
          exact V_iret hX hE rfl dX1_oddsPart_73
        · rw [if_pos h58] at hr
          refine V_iload hX dX1_oddsPart_61 rfl ?_
          refine V_iload hX dX1_oddsPart_63 rfl ?_
          obtain ⟨hn65, hr⟩ := ifz hr
          refine V_idiv hX dX1_oddsPart_65 hn65 ?_
          refine V_goto (tgt := 73) hX dX1_oddsPart_66 (by decide) ?_
          cases hr
          exact V_iret hX hE rfl dX1_oddsPart_73
      · rw [if_neg h52] at hr
        refine V_iconst hX dX1_oddsPart_55 ic_m1 ?_
        cases hr
        exact V_iret hX hE rfl dX1_oddsPart_56
    · rw [if_neg h19] at hr
      refine V_aload_n hX dX1_oddsPart_22 rfl rfl ?_
      refine V_iload hX dX1_oddsPart_23 rfl ?_
      refine V_iload_n hX dX1_oddsPart_25 rfl rfl ?_
      obtain ⟨q1, hq1, hr⟩ := bnd hr
      refine C_RX1_60 hX (c_X1_wouldDo (by omega) hq1) (Nat.le_of_ble_eq_true rfl) dX1_oddsPart_26 ?_
      refine V_if_eq (tgt := 35) hX dX1_oddsPart_29 (by decide) (fun h29 => ?_) (fun h29 => ?_)
      · rw [if_pos h29] at hr
        refine V_iinc hX dX1_oddsPart_35 rfl (ii_1 _) (Nat.le_of_ble_eq_true rfl) rfl ?_
        refine V_goto (tgt := 16) hX dX1_oddsPart_38 (by decide) ?_
        refine V_mask [true, false, true, true, true, true] ?_
        exact ih _ _ _ _ _ hr
      · rw [if_neg h29] at hr
        refine V_iinc hX dX1_oddsPart_32 rfl (ii_1 _) (Nat.le_of_ble_eq_true rfl) rfl ?_
        refine V_iinc hX dX1_oddsPart_35 rfl (ii_1 _) (Nat.le_of_ble_eq_true rfl) rfl ?_
        refine V_goto (tgt := 16) hX dX1_oddsPart_38 (by decide) ?_
        refine V_mask [true, false, true, true, true, true] ?_
        exact ih _ _ _ _ _ hr
set_option maxRecDepth 100000 in
set_option maxHeartbeats 4000000 in
theorem c_X1_oddsPart {d : Nat} (hd9 : 2 ≤ d) {p0 : Int32} {p1 : Int32} {w : Wd} {r : (Int32 × Wd)} (hr : f_X1_oddsPart p0 p1 w = some r) : Con d yX1_oddsPart cX1_oddsPart 6 (some .int) [.ref 17, .int p0, .int p1] w (some (.int r.1)) r.2 := by
  refine Con_of (by decide) (Nat.le_of_ble_eq_true rfl) (fun X hX hE => ?_)
  have hX : bOk cX1_oddsPart 6 RX1 d X := hX
  show bV X 0 [some (.ref 17), some (.int p0), some (.int p1), none, none, none] [] w
  obtain ⟨d, rfl⟩ : ∃ e, d = e + 1 := ⟨d - 1, by omega⟩
  unfold f_X1_oddsPart at hr
  refine V_aload_n hX dX1_oddsPart_0 rfl rfl ?_
  refine G_RX1_15 hX dX1_oddsPart_1 ?_
  refine V_iload_n hX dX1_oddsPart_4 rfl rfl ?_
  refine V_iconst hX dX1_oddsPart_5 ic_4 ?_
  obtain ⟨q1, hq1, hr⟩ := bnd hr
  refine C_RX1_23 hX (c_X0_part (by omega) hq1) (Nat.le_of_ble_eq_true rfl) dX1_oddsPart_6 ?_
  refine V_istore_n hX dX1_oddsPart_9 rfl (Nat.le_of_ble_eq_true rfl) rfl ?_
  refine V_iconst hX dX1_oddsPart_10 ic_0 ?_
  refine V_istore hX dX1_oddsPart_11 (Nat.le_of_ble_eq_true rfl) rfl ?_
  refine V_iconst hX dX1_oddsPart_13 ic_0 ?_
  refine V_istore hX dX1_oddsPart_14 (Nat.le_of_ble_eq_true rfl) rfl ?_
  refine V_mask [true, false, true, true, true, true] ?_
  exact v_X1_oddsPart_16 hd9 hX hE _ _ _ _ _ _ hr
def f_X1_firstYearOf_18 : Nat → Int32 → Int32 → Int32 → Wd → Option (Int32 × Wd)
  | 0, _, _, _, _ => none
  | n + 1, x1, x2, x3, w => if 8 ≤ x3 then
        (some (x2, w))
      else
        (Option.bind (f_X9_has x1 x3 w) fun q1 =>
        if q1.1 = 0 then
          (f_X1_firstYearOf_18 n x1 x2 (x3 + 1) q1.2)
        else
          (Option.bind (f_X8_earliestOf x3 q1.2) fun q2 =>
          f_X1_firstYearOf_18 n x1 (jmin x2 q2.1) (x3 + 1) q2.2))
def f_X1_firstYearOf (p0 : Int32) (w : Wd) : Option (Int32 × Wd) := Option.bind (f_X8_settle w) fun q1 =>
    if q1.1 = 0 then
      (some ((-1), q1.2))
    else
      (f_X1_firstYearOf_18 fu p0 2000 0 q1.2)
set_option maxRecDepth 100000 in
set_option maxHeartbeats 4000000 in
theorem v_X1_firstYearOf_18 {d : Nat} (hd9 : 5 ≤ d) {X : bX} (hX : bOk cX1_firstYearOf 4 RX1 d X) {r : (Int32 × Wd)} (hE : bEnd (some .int) (some (.int r.1)) r.2 X) : ∀ (n : Nat) (x1 : Int32) (x2 : Int32) (x3 : Int32) (w : Wd), f_X1_firstYearOf_18 n x1 x2 x3 w = some r → bV X 18 [some (.ref 17), some (.int x1), some (.int x2), some (.int x3)] [] w := by
  obtain ⟨d, rfl⟩ : ∃ e, d = e + 1 := ⟨d - 1, by omega⟩
  intro n
  induction n with
  | zero => intro x1 x2 x3 w hr; exact absurd hr (by simp [f_X1_firstYearOf_18])
  | succ n ih =>
    intro x1 x2 x3 w hr
    rw [f_X1_firstYearOf_18] at hr
    refine V_iload_n hX dX1_firstYearOf_18 rfl rfl ?_
    refine V_bipush hX dX1_firstYearOf_19 bp_8 ?_
    refine V_icmp_ge (tgt := 51) hX dX1_firstYearOf_21 (by decide) (fun h21 => ?_) (fun h21 => ?_)
    · rw [if_pos h21] at hr
      refine V_iload_n hX dX1_firstYearOf_51 rfl rfl ?_
      cases hr
      exact V_iret hX hE rfl dX1_firstYearOf_52
    · rw [if_neg h21] at hr
      refine V_iload_n hX dX1_firstYearOf_24 rfl rfl ?_
      refine V_iload_n hX dX1_firstYearOf_25 rfl rfl ?_
      obtain ⟨q1, hq1, hr⟩ := bnd hr
      refine C_RX1_95 hX (c_X9_has (by omega) hq1) (Nat.le_of_ble_eq_true rfl) dX1_firstYearOf_26 ?_
      refine V_if_eq (tgt := 45) hX dX1_firstYearOf_29 (by decide) (fun h29 => ?_) (fun h29 => ?_)
      · rw [if_pos h29] at hr
        refine V_iinc hX dX1_firstYearOf_45 rfl (ii_1 _) (Nat.le_of_ble_eq_true rfl) rfl ?_
        refine V_goto (tgt := 18) hX dX1_firstYearOf_48 (by decide) ?_
        refine V_mask [true, true, true, true] ?_
        exact ih _ _ _ _ hr
      · rw [if_neg h29] at hr
        refine V_iload_n hX dX1_firstYearOf_32 rfl rfl ?_
        refine V_aload_n hX dX1_firstYearOf_33 rfl rfl ?_
        refine G_RX1_19 hX dX1_firstYearOf_34 ?_
        refine V_iload_n hX dX1_firstYearOf_37 rfl rfl ?_
        obtain ⟨q2, hq2, hr⟩ := bnd hr
        refine C_RX1_118 hX (c_X8_earliestOf (by omega) hq2) (Nat.le_of_ble_eq_true rfl) dX1_firstYearOf_38 ?_
        refine V_mmin hX mt_RX1_63 (by omega) (Nat.le_of_ble_eq_true rfl) dX1_firstYearOf_41 ?_
        refine V_istore_n hX dX1_firstYearOf_44 rfl (Nat.le_of_ble_eq_true rfl) rfl ?_
        refine V_iinc hX dX1_firstYearOf_45 rfl (ii_1 _) (Nat.le_of_ble_eq_true rfl) rfl ?_
        refine V_goto (tgt := 18) hX dX1_firstYearOf_48 (by decide) ?_
        refine V_mask [true, true, true, true] ?_
        exact ih _ _ _ _ hr
set_option maxRecDepth 100000 in
set_option maxHeartbeats 4000000 in
theorem c_X1_firstYearOf {d : Nat} (hd9 : 5 ≤ d) {p0 : Int32} {w : Wd} {r : (Int32 × Wd)} (hr : f_X1_firstYearOf p0 w = some r) : Con d yX1_firstYearOf cX1_firstYearOf 4 (some .int) [.ref 17, .int p0] w (some (.int r.1)) r.2 := by
  refine Con_of (by decide) (Nat.le_of_ble_eq_true rfl) (fun X hX hE => ?_)
  have hX : bOk cX1_firstYearOf 4 RX1 d X := hX
  show bV X 0 [some (.ref 17), some (.int p0), none, none] [] w
  obtain ⟨d, rfl⟩ : ∃ e, d = e + 1 := ⟨d - 1, by omega⟩
  unfold f_X1_firstYearOf at hr
  refine V_aload_n hX dX1_firstYearOf_0 rfl rfl ?_
  refine G_RX1_19 hX dX1_firstYearOf_1 ?_
  obtain ⟨q1, hq1, hr⟩ := bnd hr
  refine C_RX1_112 hX (c_X8_settle (by omega) hq1) (Nat.le_of_ble_eq_true rfl) dX1_firstYearOf_4 ?_
  refine V_if_ne (tgt := 12) hX dX1_firstYearOf_7 (by decide) (fun h7 => ?_) (fun h7 => ?_)
  · rw [if_neg h7] at hr
    refine V_sipush hX dX1_firstYearOf_12 sp_2000 ?_
    refine V_istore_n hX dX1_firstYearOf_15 rfl (Nat.le_of_ble_eq_true rfl) rfl ?_
    refine V_iconst hX dX1_firstYearOf_16 ic_0 ?_
    refine V_istore_n hX dX1_firstYearOf_17 rfl (Nat.le_of_ble_eq_true rfl) rfl ?_
    refine V_mask [true, true, true, true] ?_
    exact v_X1_firstYearOf_18 hd9 hX hE _ _ _ _ _ hr
  · rw [if_pos h7] at hr
    refine V_iconst hX dX1_firstYearOf_10 ic_m1 ?_
    cases hr
    exact V_iret hX hE rfl dX1_firstYearOf_11
def f_X1_linkAll_12 (k2 : Int32 → Wd → Option Wd) : Nat → Int32 → Int32 → Int32 → Wd → Option Wd
  | 0, _, _, _, _ => none
  | n + 1, x1, x2, x3, w => if 8 ≤ x3 then
        (Option.bind (f_X9_put 18 x1 x2 w) fun q1 =>
        k2 (x1 + 1) q1)
      else
        (if x1 = x3 then
          (f_X1_linkAll_12 k2 n x1 x2 (x3 + 1) w)
        else
          (Option.bind (f_X0_isBundle x1 w) fun q1 =>
          if q1.1 = 0 then
            (f_X1_linkAll_12 k2 n x1 x2 (x3 + 1) q1.2)
          else
            (Option.bind (f_X0_isBundle x3 q1.2) fun q2 =>
            if q2.1 = 0 then
              (f_X1_linkAll_12 k2 n x1 x2 (x3 + 1) q2.2)
            else
              (Option.bind (f_X1_areJoined x1 x3 q2.2) fun q3 =>
              if q3.1 = 0 then
                (f_X1_linkAll_12 k2 n x1 x2 (x3 + 1) q3.2)
              else
                (f_X1_linkAll_12 k2 n x1 (x2 ||| (jshl 1 x3)) (x3 + 1) q3.2)))))
def f_X1_linkAll_2 : Nat → Int32 → Wd → Option Wd
  | 0, _, _ => none
  | n + 1, x1, w => if 8 ≤ x1 then
        (some w)
      else
        (f_X1_linkAll_12 (f_X1_linkAll_2 n) fu x1 0 0 w)
def f_X1_linkAll (w : Wd) : Option Wd := f_X1_linkAll_2 fu 0 w
set_option maxRecDepth 100000 in
set_option maxHeartbeats 4000000 in
theorem v_X1_linkAll_12 {d : Nat} (hd9 : 4 ≤ d) {X : bX} (hX : bOk cX1_linkAll 4 RX1 d X) {r : Wd} (hE : bEnd none none r X) {k2 : Int32 → Wd → Option Wd} (hk2 : ∀ (x1 : Int32) (w : Wd), k2 x1 w = some r → bV X 2 [some (.ref 17), some (.int x1), none, none] [] w) : ∀ (n : Nat) (x1 : Int32) (x2 : Int32) (x3 : Int32) (w : Wd), f_X1_linkAll_12 k2 n x1 x2 x3 w = some r → bV X 12 [some (.ref 17), some (.int x1), some (.int x2), some (.int x3)] [] w := by
  obtain ⟨d, rfl⟩ : ∃ e, d = e + 1 := ⟨d - 1, by omega⟩
  intro n
  induction n with
  | zero => intro x1 x2 x3 w hr; exact absurd hr (by simp [f_X1_linkAll_12])
  | succ n ih =>
    intro x1 x2 x3 w hr
    rw [f_X1_linkAll_12] at hr
    refine V_iload_n hX dX1_linkAll_12 rfl rfl ?_
    refine V_bipush hX dX1_linkAll_13 bp_8 ?_
    refine V_icmp_ge (tgt := 66) hX dX1_linkAll_15 (by decide) (fun h15 => ?_) (fun h15 => ?_)
    · rw [if_pos h15] at hr
      refine V_aload_n hX dX1_linkAll_66 rfl rfl ?_
      refine G_RX1_9 hX dX1_linkAll_67 ?_
      refine V_iload_n hX dX1_linkAll_70 rfl rfl ?_
      refine V_iload_n hX dX1_linkAll_71 rfl rfl ?_
      obtain ⟨q1, hq1, hr⟩ := bnd hr
      refine C_RX1_101 hX (c_X9_put (by omega) hq1) (Nat.le_of_ble_eq_true rfl) dX1_linkAll_72 ?_
      refine V_iinc hX dX1_linkAll_75 rfl (ii_1 _) (Nat.le_of_ble_eq_true rfl) rfl ?_
      refine V_goto (tgt := 2) hX dX1_linkAll_78 (by decide) ?_
      refine V_mask [true, true, false, false] ?_
      exact hk2 _ _ hr
    · rw [if_neg h15] at hr
      refine V_iload_n hX dX1_linkAll_18 rfl rfl ?_
      refine V_iload_n hX dX1_linkAll_19 rfl rfl ?_
      refine V_icmp_eq (tgt := 60) hX dX1_linkAll_20 (by decide) (fun h20 => ?_) (fun h20 => ?_)
      · rw [if_pos h20] at hr
        refine V_iinc hX dX1_linkAll_60 rfl (ii_1 _) (Nat.le_of_ble_eq_true rfl) rfl ?_
        refine V_goto (tgt := 12) hX dX1_linkAll_63 (by decide) ?_
        refine V_mask [true, true, true, true] ?_
        exact ih _ _ _ _ hr
      · rw [if_neg h20] at hr
        refine V_aload_n hX dX1_linkAll_23 rfl rfl ?_
        refine G_RX1_15 hX dX1_linkAll_24 ?_
        refine V_iload_n hX dX1_linkAll_27 rfl rfl ?_
        obtain ⟨q1, hq1, hr⟩ := bnd hr
        refine C_RX1_92 hX (c_X0_isBundle (by omega) hq1) (Nat.le_of_ble_eq_true rfl) dX1_linkAll_28 ?_
        refine V_if_eq (tgt := 60) hX dX1_linkAll_31 (by decide) (fun h31 => ?_) (fun h31 => ?_)
        · rw [if_pos h31] at hr
          refine V_iinc hX dX1_linkAll_60 rfl (ii_1 _) (Nat.le_of_ble_eq_true rfl) rfl ?_
          refine V_goto (tgt := 12) hX dX1_linkAll_63 (by decide) ?_
          refine V_mask [true, true, true, true] ?_
          exact ih _ _ _ _ hr
        · rw [if_neg h31] at hr
          refine V_aload_n hX dX1_linkAll_34 rfl rfl ?_
          refine G_RX1_15 hX dX1_linkAll_35 ?_
          refine V_iload_n hX dX1_linkAll_38 rfl rfl ?_
          obtain ⟨q2, hq2, hr⟩ := bnd hr
          refine C_RX1_92 hX (c_X0_isBundle (by omega) hq2) (Nat.le_of_ble_eq_true rfl) dX1_linkAll_39 ?_
          refine V_if_eq (tgt := 60) hX dX1_linkAll_42 (by decide) (fun h42 => ?_) (fun h42 => ?_)
          · rw [if_pos h42] at hr
            refine V_iinc hX dX1_linkAll_60 rfl (ii_1 _) (Nat.le_of_ble_eq_true rfl) rfl ?_
            refine V_goto (tgt := 12) hX dX1_linkAll_63 (by decide) ?_
            refine V_mask [true, true, true, true] ?_
            exact ih _ _ _ _ hr
          · rw [if_neg h42] at hr
            refine V_aload_n hX dX1_linkAll_45 rfl rfl ?_
            refine V_iload_n hX dX1_linkAll_46 rfl rfl ?_
            refine V_iload_n hX dX1_linkAll_47 rfl rfl ?_
            obtain ⟨q3, hq3, hr⟩ := bnd hr
            refine C_RX1_98 hX (c_X1_areJoined (by omega) hq3) (Nat.le_of_ble_eq_true rfl) dX1_linkAll_48 ?_
            refine V_if_eq (tgt := 60) hX dX1_linkAll_51 (by decide) (fun h51 => ?_) (fun h51 => ?_)
            · rw [if_pos h51] at hr
              refine V_iinc hX dX1_linkAll_60 rfl (ii_1 _) (Nat.le_of_ble_eq_true rfl) rfl ?_
              refine V_goto (tgt := 12) hX dX1_linkAll_63 (by decide) ?_
              refine V_mask [true, true, true, true] ?_
              exact ih _ _ _ _ hr
            · rw [if_neg h51] at hr
              refine V_iload_n hX dX1_linkAll_54 rfl rfl ?_
              refine V_iconst hX dX1_linkAll_55 ic_1 ?_
              refine V_iload_n hX dX1_linkAll_56 rfl rfl ?_
              refine V_ishl hX dX1_linkAll_57 ?_
              refine V_ior hX dX1_linkAll_58 ?_
              refine V_istore_n hX dX1_linkAll_59 rfl (Nat.le_of_ble_eq_true rfl) rfl ?_
              refine V_iinc hX dX1_linkAll_60 rfl (ii_1 _) (Nat.le_of_ble_eq_true rfl) rfl ?_
              refine V_goto (tgt := 12) hX dX1_linkAll_63 (by decide) ?_
              refine V_mask [true, true, true, true] ?_
              exact ih _ _ _ _ hr
set_option maxRecDepth 100000 in
set_option maxHeartbeats 4000000 in
theorem v_X1_linkAll_2 {d : Nat} (hd9 : 4 ≤ d) {X : bX} (hX : bOk cX1_linkAll 4 RX1 d X) {r : Wd} (hE : bEnd none none r X) : ∀ (n : Nat) (x1 : Int32) (w : Wd), f_X1_linkAll_2 n x1 w = some r → bV X 2 [some (.ref 17), some (.int x1), none, none] [] w := by
  obtain ⟨d, rfl⟩ : ∃ e, d = e + 1 := ⟨d - 1, by omega⟩
  intro n
  induction n with
  | zero => intro x1 w hr; exact absurd hr (by simp [f_X1_linkAll_2])
  | succ n ih =>
    intro x1 w hr
    rw [f_X1_linkAll_2] at hr
    refine V_iload_n hX dX1_linkAll_2 rfl rfl ?_
    refine V_bipush hX dX1_linkAll_3 bp_8 ?_
    refine V_icmp_ge (tgt := 81) hX dX1_linkAll_5 (by decide) (fun h5 => ?_) (fun h5 => ?_)
    · rw [if_pos h5] at hr
      cases hr
      exact V_vret hX hE dX1_linkAll_81
    · rw [if_neg h5] at hr
      refine V_iconst hX dX1_linkAll_8 ic_0 ?_
      refine V_istore_n hX dX1_linkAll_9 rfl (Nat.le_of_ble_eq_true rfl) rfl ?_
      refine V_iconst hX dX1_linkAll_10 ic_0 ?_
      refine V_istore_n hX dX1_linkAll_11 rfl (Nat.le_of_ble_eq_true rfl) rfl ?_
      refine V_mask [true, true, true, true] ?_
      exact v_X1_linkAll_12 hd9 hX hE ih _ _ _ _ _ hr
set_option maxRecDepth 100000 in
set_option maxHeartbeats 4000000 in
theorem c_X1_linkAll {d : Nat} (hd9 : 4 ≤ d) {w : Wd} {r : Wd} (hr : f_X1_linkAll w = some r) : Con d yX1_linkAll cX1_linkAll 4 none [.ref 17] w none r := by
  refine Con_of (by decide) (Nat.le_of_ble_eq_true rfl) (fun X hX hE => ?_)
  have hX : bOk cX1_linkAll 4 RX1 d X := hX
  show bV X 0 [some (.ref 17), none, none, none] [] w
  obtain ⟨d, rfl⟩ : ∃ e, d = e + 1 := ⟨d - 1, by omega⟩
  unfold f_X1_linkAll at hr
  refine V_iconst hX dX1_linkAll_0 ic_0 ?_
  refine V_istore_n hX dX1_linkAll_1 rfl (Nat.le_of_ble_eq_true rfl) rfl ?_
  refine V_mask [true, true, false, false] ?_
  exact v_X1_linkAll_2 hd9 hX hE _ _ _ hr
def f_X1_reachFrom_15 (k6 : Int32 → Int32 → Wd → Option (Int32 × Wd)) : Nat → Int32 → Int32 → Int32 → Wd → Option (Int32 × Wd)
  | 0, _, _, _, _ => none
  | n + 1, x2, x3, x4, w => if 8 ≤ x4 then
        (k6 x2 (x3 + 1) w)
      else
        (Option.bind (f_X9_has x2 x4 w) fun q1 =>
        if q1.1 = 0 then
          (f_X1_reachFrom_15 k6 n x2 x3 (x4 + 1) q1.2)
        else
          (Option.bind (f_X9_at 18 x4 q1.2) fun q2 =>
          f_X1_reachFrom_15 k6 n (x2 ||| q2.1) x3 (x4 + 1) q2.2))
def f_X1_reachFrom_6 : Nat → Int32 → Int32 → Wd → Option (Int32 × Wd)
  | 0, _, _, _ => none
  | n + 1, x2, x3, w => if 8 ≤ x3 then
        (some (x2, w))
      else
        (f_X1_reachFrom_15 (f_X1_reachFrom_6 n) fu x2 x3 0 w)
def f_X1_reachFrom (p0 : Int32) (w : Wd) : Option (Int32 × Wd) := f_X1_reachFrom_6 fu (jshl 1 p0) 0 w
set_option maxRecDepth 100000 in
set_option maxHeartbeats 4000000 in
theorem v_X1_reachFrom_15 {d : Nat} (hd9 : 1 ≤ d) {X : bX} (hX : bOk cX1_reachFrom 5 RX1 d X) {r : (Int32 × Wd)} (hE : bEnd (some .int) (some (.int r.1)) r.2 X) {k6 : Int32 → Int32 → Wd → Option (Int32 × Wd)} (hk6 : ∀ (x2 : Int32) (x3 : Int32) (w : Wd), k6 x2 x3 w = some r → bV X 6 [some (.ref 17), none, some (.int x2), some (.int x3), none] [] w) : ∀ (n : Nat) (x2 : Int32) (x3 : Int32) (x4 : Int32) (w : Wd), f_X1_reachFrom_15 k6 n x2 x3 x4 w = some r → bV X 15 [some (.ref 17), none, some (.int x2), some (.int x3), some (.int x4)] [] w := by
  obtain ⟨d, rfl⟩ : ∃ e, d = e + 1 := ⟨d - 1, by omega⟩
  intro n
  induction n with
  | zero => intro x2 x3 x4 w hr; exact absurd hr (by simp [f_X1_reachFrom_15])
  | succ n ih =>
    intro x2 x3 x4 w hr
    rw [f_X1_reachFrom_15] at hr
    refine V_iload hX dX1_reachFrom_15 rfl ?_
    refine V_bipush hX dX1_reachFrom_17 bp_8 ?_
    refine V_icmp_ge (tgt := 49) hX dX1_reachFrom_19 (by decide) (fun h19 => ?_) (fun h19 => ?_)
    · rw [if_pos h19] at hr
      refine V_iinc hX dX1_reachFrom_49 rfl (ii_1 _) (Nat.le_of_ble_eq_true rfl) rfl ?_
      refine V_goto (tgt := 6) hX dX1_reachFrom_52 (by decide) ?_
      refine V_mask [true, false, true, true, false] ?_
      exact hk6 _ _ _ hr
    · rw [if_neg h19] at hr
      refine V_iload_n hX dX1_reachFrom_22 rfl rfl ?_
      refine V_iload hX dX1_reachFrom_23 rfl ?_
      obtain ⟨q1, hq1, hr⟩ := bnd hr
      refine C_RX1_95 hX (c_X9_has (by omega) hq1) (Nat.le_of_ble_eq_true rfl) dX1_reachFrom_25 ?_
      refine V_if_eq (tgt := 43) hX dX1_reachFrom_28 (by decide) (fun h28 => ?_) (fun h28 => ?_)
      · rw [if_pos h28] at hr
        refine V_iinc hX dX1_reachFrom_43 rfl (ii_1 _) (Nat.le_of_ble_eq_true rfl) rfl ?_
        refine V_goto (tgt := 15) hX dX1_reachFrom_46 (by decide) ?_
        refine V_mask [true, false, true, true, true] ?_
        exact ih _ _ _ _ hr
      · rw [if_neg h28] at hr
        refine V_iload_n hX dX1_reachFrom_31 rfl rfl ?_
        refine V_aload_n hX dX1_reachFrom_32 rfl rfl ?_
        refine G_RX1_9 hX dX1_reachFrom_33 ?_
        refine V_iload hX dX1_reachFrom_36 rfl ?_
        obtain ⟨q2, hq2, hr⟩ := bnd hr
        refine C_RX1_105 hX (c_X9_at (by omega) hq2) (Nat.le_of_ble_eq_true rfl) dX1_reachFrom_38 ?_
        refine V_ior hX dX1_reachFrom_41 ?_
        refine V_istore_n hX dX1_reachFrom_42 rfl (Nat.le_of_ble_eq_true rfl) rfl ?_
        refine V_iinc hX dX1_reachFrom_43 rfl (ii_1 _) (Nat.le_of_ble_eq_true rfl) rfl ?_
        refine V_goto (tgt := 15) hX dX1_reachFrom_46 (by decide) ?_
        refine V_mask [true, false, true, true, true] ?_
        exact ih _ _ _ _ hr
set_option maxRecDepth 100000 in
set_option maxHeartbeats 4000000 in
theorem v_X1_reachFrom_6 {d : Nat} (hd9 : 1 ≤ d) {X : bX} (hX : bOk cX1_reachFrom 5 RX1 d X) {r : (Int32 × Wd)} (hE : bEnd (some .int) (some (.int r.1)) r.2 X) : ∀ (n : Nat) (x2 : Int32) (x3 : Int32) (w : Wd), f_X1_reachFrom_6 n x2 x3 w = some r → bV X 6 [some (.ref 17), none, some (.int x2), some (.int x3), none] [] w := by
  obtain ⟨d, rfl⟩ : ∃ e, d = e + 1 := ⟨d - 1, by omega⟩
  intro n
  induction n with
  | zero => intro x2 x3 w hr; exact absurd hr (by simp [f_X1_reachFrom_6])
  | succ n ih =>
    intro x2 x3 w hr
    rw [f_X1_reachFrom_6] at hr
    refine V_iload_n hX dX1_reachFrom_6 rfl rfl ?_
    refine V_bipush hX dX1_reachFrom_7 bp_8 ?_
    refine V_icmp_ge (tgt := 55) hX dX1_reachFrom_9 (by decide) (fun h9 => ?_) (fun h9 => ?_)
    · rw [if_pos h9] at hr
      refine V_iload_n hX dX1_reachFrom_55 rfl rfl ?_
      cases hr
      exact V_iret hX hE rfl dX1_reachFrom_56
    · rw [if_neg h9] at hr
      refine V_iconst hX dX1_reachFrom_12 ic_0 ?_
      refine V_istore hX dX1_reachFrom_13 (Nat.le_of_ble_eq_true rfl) rfl ?_
      refine V_mask [true, false, true, true, true] ?_
      exact v_X1_reachFrom_15 hd9 hX hE ih _ _ _ _ _ hr
set_option maxRecDepth 100000 in
set_option maxHeartbeats 4000000 in
theorem c_X1_reachFrom {d : Nat} (hd9 : 1 ≤ d) {p0 : Int32} {w : Wd} {r : (Int32 × Wd)} (hr : f_X1_reachFrom p0 w = some r) : Con d yX1_reachFrom cX1_reachFrom 5 (some .int) [.ref 17, .int p0] w (some (.int r.1)) r.2 := by
  refine Con_of (by decide) (Nat.le_of_ble_eq_true rfl) (fun X hX hE => ?_)
  have hX : bOk cX1_reachFrom 5 RX1 d X := hX
  show bV X 0 [some (.ref 17), some (.int p0), none, none, none] [] w
  obtain ⟨d, rfl⟩ : ∃ e, d = e + 1 := ⟨d - 1, by omega⟩
  unfold f_X1_reachFrom at hr
  refine V_iconst hX dX1_reachFrom_0 ic_1 ?_
  refine V_iload_n hX dX1_reachFrom_1 rfl rfl ?_
  refine V_ishl hX dX1_reachFrom_2 ?_
  refine V_istore_n hX dX1_reachFrom_3 rfl (Nat.le_of_ble_eq_true rfl) rfl ?_
  refine V_iconst hX dX1_reachFrom_4 ic_0 ?_
  refine V_istore_n hX dX1_reachFrom_5 rfl (Nat.le_of_ble_eq_true rfl) rfl ?_
  refine V_mask [true, false, true, true, false] ?_
  exact v_X1_reachFrom_6 hd9 hX hE _ _ _ _ hr
def f_X1_membersWith (p0 : Int32) (w : Wd) : Option (Int32 × Wd) := Option.bind (f_X1_linkAll w) fun q1 =>
    Option.bind (f_X1_reachFrom p0 q1) fun q2 =>
    some (q2.1, q2.2)
set_option maxRecDepth 100000 in
set_option maxHeartbeats 4000000 in
theorem c_X1_membersWith {d : Nat} (hd9 : 5 ≤ d) {p0 : Int32} {w : Wd} {r : (Int32 × Wd)} (hr : f_X1_membersWith p0 w = some r) : Con d yX1_membersWith cX1_membersWith 2 (some .int) [.ref 17, .int p0] w (some (.int r.1)) r.2 := by
  refine Con_of (by decide) (Nat.le_of_ble_eq_true rfl) (fun X hX hE => ?_)
  have hX : bOk cX1_membersWith 2 RX1 d X := hX
  show bV X 0 [some (.ref 17), some (.int p0)] [] w
  obtain ⟨d, rfl⟩ : ∃ e, d = e + 1 := ⟨d - 1, by omega⟩
  unfold f_X1_membersWith at hr
  refine V_aload_n hX dX1_membersWith_0 rfl rfl ?_
  obtain ⟨q1, hq1, hr⟩ := bnd hr
  refine C_RX1_86 hX (c_X1_linkAll (by omega) hq1) (Nat.le_of_ble_eq_true rfl) dX1_membersWith_1 ?_
  refine V_aload_n hX dX1_membersWith_4 rfl rfl ?_
  refine V_iload_n hX dX1_membersWith_5 rfl rfl ?_
  obtain ⟨q2, hq2, hr⟩ := bnd hr
  refine C_RX1_89 hX (c_X1_reachFrom (by omega) hq2) (Nat.le_of_ble_eq_true rfl) dX1_membersWith_6 ?_
  cases hr
  exact V_iret hX hE rfl dX1_membersWith_9
def f_X1_yardsOf_4 : Nat → Int32 → Int32 → Int32 → Wd → Option (Int32 × Wd)
  | 0, _, _, _, _ => none
  | n + 1, x1, x2, x3, w => if 8 ≤ x3 then
        (some (x2, w))
      else
        (Option.bind (f_X9_has x1 x3 w) fun q1 =>
        if q1.1 = 0 then
          (f_X1_yardsOf_4 n x1 x2 (x3 + 1) q1.2)
        else
          (Option.bind (f_X0_yards x3 q1.2) fun q2 =>
          f_X1_yardsOf_4 n x1 (x2 + q2.1) (x3 + 1) q2.2))
def f_X1_yardsOf (p0 : Int32) (w : Wd) : Option (Int32 × Wd) := f_X1_yardsOf_4 fu p0 0 0 w
set_option maxRecDepth 100000 in
set_option maxHeartbeats 4000000 in
theorem v_X1_yardsOf_4 {d : Nat} (hd9 : 3 ≤ d) {X : bX} (hX : bOk cX1_yardsOf 4 RX1 d X) {r : (Int32 × Wd)} (hE : bEnd (some .int) (some (.int r.1)) r.2 X) : ∀ (n : Nat) (x1 : Int32) (x2 : Int32) (x3 : Int32) (w : Wd), f_X1_yardsOf_4 n x1 x2 x3 w = some r → bV X 4 [some (.ref 17), some (.int x1), some (.int x2), some (.int x3)] [] w := by
  obtain ⟨d, rfl⟩ : ∃ e, d = e + 1 := ⟨d - 1, by omega⟩
  intro n
  induction n with
  | zero => intro x1 x2 x3 w hr; exact absurd hr (by simp [f_X1_yardsOf_4])
  | succ n ih =>
    intro x1 x2 x3 w hr
    rw [f_X1_yardsOf_4] at hr
    refine V_iload_n hX dX1_yardsOf_4 rfl rfl ?_
    refine V_bipush hX dX1_yardsOf_5 bp_8 ?_
    refine V_icmp_ge (tgt := 35) hX dX1_yardsOf_7 (by decide) (fun h7 => ?_) (fun h7 => ?_)
    · rw [if_pos h7] at hr
      refine V_iload_n hX dX1_yardsOf_35 rfl rfl ?_
      cases hr
      exact V_iret hX hE rfl dX1_yardsOf_36
    · rw [if_neg h7] at hr
      refine V_iload_n hX dX1_yardsOf_10 rfl rfl ?_
      refine V_iload_n hX dX1_yardsOf_11 rfl rfl ?_
      obtain ⟨q1, hq1, hr⟩ := bnd hr
      refine C_RX1_95 hX (c_X9_has (by omega) hq1) (Nat.le_of_ble_eq_true rfl) dX1_yardsOf_12 ?_
      refine V_if_eq (tgt := 29) hX dX1_yardsOf_15 (by decide) (fun h15 => ?_) (fun h15 => ?_)
      · rw [if_pos h15] at hr
        refine V_iinc hX dX1_yardsOf_29 rfl (ii_1 _) (Nat.le_of_ble_eq_true rfl) rfl ?_
        refine V_goto (tgt := 4) hX dX1_yardsOf_32 (by decide) ?_
        refine V_mask [true, true, true, true] ?_
        exact ih _ _ _ _ hr
      · rw [if_neg h15] at hr
        refine V_iload_n hX dX1_yardsOf_18 rfl rfl ?_
        refine V_aload_n hX dX1_yardsOf_19 rfl rfl ?_
        refine G_RX1_15 hX dX1_yardsOf_20 ?_
        refine V_iload_n hX dX1_yardsOf_23 rfl rfl ?_
        obtain ⟨q2, hq2, hr⟩ := bnd hr
        refine C_RX1_109 hX (c_X0_yards (by omega) hq2) (Nat.le_of_ble_eq_true rfl) dX1_yardsOf_24 ?_
        refine V_iadd hX dX1_yardsOf_27 ?_
        refine V_istore_n hX dX1_yardsOf_28 rfl (Nat.le_of_ble_eq_true rfl) rfl ?_
        refine V_iinc hX dX1_yardsOf_29 rfl (ii_1 _) (Nat.le_of_ble_eq_true rfl) rfl ?_
        refine V_goto (tgt := 4) hX dX1_yardsOf_32 (by decide) ?_
        refine V_mask [true, true, true, true] ?_
        exact ih _ _ _ _ hr
set_option maxRecDepth 100000 in
set_option maxHeartbeats 4000000 in
theorem c_X1_yardsOf {d : Nat} (hd9 : 3 ≤ d) {p0 : Int32} {w : Wd} {r : (Int32 × Wd)} (hr : f_X1_yardsOf p0 w = some r) : Con d yX1_yardsOf cX1_yardsOf 4 (some .int) [.ref 17, .int p0] w (some (.int r.1)) r.2 := by
  refine Con_of (by decide) (Nat.le_of_ble_eq_true rfl) (fun X hX hE => ?_)
  have hX : bOk cX1_yardsOf 4 RX1 d X := hX
  show bV X 0 [some (.ref 17), some (.int p0), none, none] [] w
  obtain ⟨d, rfl⟩ : ∃ e, d = e + 1 := ⟨d - 1, by omega⟩
  unfold f_X1_yardsOf at hr
  refine V_iconst hX dX1_yardsOf_0 ic_0 ?_
  refine V_istore_n hX dX1_yardsOf_1 rfl (Nat.le_of_ble_eq_true rfl) rfl ?_
  refine V_iconst hX dX1_yardsOf_2 ic_0 ?_
  refine V_istore_n hX dX1_yardsOf_3 rfl (Nat.le_of_ble_eq_true rfl) rfl ?_
  refine V_mask [true, true, true, true] ?_
  exact v_X1_yardsOf_4 hd9 hX hE _ _ _ _ _ hr
def f_X1_howManyFields_10 : Nat → Int32 → Int32 → Int32 → Wd → Option (Int32 × Wd)
  | 0, _, _, _, _ => none
  | n + 1, x1, x2, x3, w => if 8 ≤ x3 then
        (some (x1, w))
      else
        (Option.bind (f_X0_isBundle x3 w) fun q1 =>
        if q1.1 = 0 then
          (f_X1_howManyFields_10 n x1 x2 (x3 + 1) q1.2)
        else
          (Option.bind (f_X9_has x2 x3 q1.2) fun q2 =>
          if q2.1 = 0 then
            (Option.bind (f_X1_reachFrom x3 q2.2) fun q3 =>
            f_X1_howManyFields_10 n (x1 + 1) (x2 ||| q3.1) (x3 + 1) q3.2)
          else
            (f_X1_howManyFields_10 n x1 x2 (x3 + 1) q2.2)))
def f_X1_howManyFields (w : Wd) : Option (Int32 × Wd) := Option.bind (f_X1_linkAll w) fun q1 =>
    f_X1_howManyFields_10 fu 0 0 0 q1
set_option maxRecDepth 100000 in
set_option maxHeartbeats 4000000 in
theorem v_X1_howManyFields_10 {d : Nat} (hd9 : 5 ≤ d) {X : bX} (hX : bOk cX1_howManyFields 4 RX1 d X) {r : (Int32 × Wd)} (hE : bEnd (some .int) (some (.int r.1)) r.2 X) : ∀ (n : Nat) (x1 : Int32) (x2 : Int32) (x3 : Int32) (w : Wd), f_X1_howManyFields_10 n x1 x2 x3 w = some r → bV X 10 [some (.ref 17), some (.int x1), some (.int x2), some (.int x3)] [] w := by
  obtain ⟨d, rfl⟩ : ∃ e, d = e + 1 := ⟨d - 1, by omega⟩
  intro n
  induction n with
  | zero => intro x1 x2 x3 w hr; exact absurd hr (by simp [f_X1_howManyFields_10])
  | succ n ih =>
    intro x1 x2 x3 w hr
    rw [f_X1_howManyFields_10] at hr
    refine V_iload_n hX dX1_howManyFields_10 rfl rfl ?_
    refine V_bipush hX dX1_howManyFields_11 bp_8 ?_
    refine V_icmp_ge (tgt := 52) hX dX1_howManyFields_13 (by decide) (fun h13 => ?_) (fun h13 => ?_)
    · rw [if_pos h13] at hr
      refine V_iload_n hX dX1_howManyFields_52 rfl rfl ?_
      cases hr
      exact V_iret hX hE rfl dX1_howManyFields_53
    · rw [if_neg h13] at hr
      refine V_aload_n hX dX1_howManyFields_16 rfl rfl ?_
      refine G_RX1_15 hX dX1_howManyFields_17 ?_
      refine V_iload_n hX dX1_howManyFields_20 rfl rfl ?_
      obtain ⟨q1, hq1, hr⟩ := bnd hr
      refine C_RX1_92 hX (c_X0_isBundle (by omega) hq1) (Nat.le_of_ble_eq_true rfl) dX1_howManyFields_21 ?_
      refine V_if_eq (tgt := 46) hX dX1_howManyFields_24 (by decide) (fun h24 => ?_) (fun h24 => ?_)
      · rw [if_pos h24] at hr
        refine V_iinc hX dX1_howManyFields_46 rfl (ii_1 _) (Nat.le_of_ble_eq_true rfl) rfl ?_
        refine V_goto (tgt := 10) hX dX1_howManyFields_49 (by decide) ?_
        refine V_mask [true, true, true, true] ?_
        exact ih _ _ _ _ hr
      · rw [if_neg h24] at hr
        refine V_iload_n hX dX1_howManyFields_27 rfl rfl ?_
        refine V_iload_n hX dX1_howManyFields_28 rfl rfl ?_
        obtain ⟨q2, hq2, hr⟩ := bnd hr
        refine C_RX1_95 hX (c_X9_has (by omega) hq2) (Nat.le_of_ble_eq_true rfl) dX1_howManyFields_29 ?_
        refine V_if_ne (tgt := 46) hX dX1_howManyFields_32 (by decide) (fun h32 => ?_) (fun h32 => ?_)
        · rw [if_neg h32] at hr
          refine V_iinc hX dX1_howManyFields_46 rfl (ii_1 _) (Nat.le_of_ble_eq_true rfl) rfl ?_
          refine V_goto (tgt := 10) hX dX1_howManyFields_49 (by decide) ?_
          refine V_mask [true, true, true, true] ?_
          exact ih _ _ _ _ hr
        · rw [if_pos h32] at hr
          refine V_iload_n hX dX1_howManyFields_35 rfl rfl ?_
          refine V_aload_n hX dX1_howManyFields_36 rfl rfl ?_
          refine V_iload_n hX dX1_howManyFields_37 rfl rfl ?_
          obtain ⟨q3, hq3, hr⟩ := bnd hr
          refine C_RX1_89 hX (c_X1_reachFrom (by omega) hq3) (Nat.le_of_ble_eq_true rfl) dX1_howManyFields_38 ?_
          refine V_ior hX dX1_howManyFields_41 ?_
          refine V_istore_n hX dX1_howManyFields_42 rfl (Nat.le_of_ble_eq_true rfl) rfl ?_
          refine V_iinc hX dX1_howManyFields_43 rfl (ii_1 _) (Nat.le_of_ble_eq_true rfl) rfl ?_
          refine V_iinc hX dX1_howManyFields_46 rfl (ii_1 _) (Nat.le_of_ble_eq_true rfl) rfl ?_
          refine V_goto (tgt := 10) hX dX1_howManyFields_49 (by decide) ?_
          refine V_mask [true, true, true, true] ?_
          exact ih _ _ _ _ hr
set_option maxRecDepth 100000 in
set_option maxHeartbeats 4000000 in
theorem c_X1_howManyFields {d : Nat} (hd9 : 5 ≤ d) {w : Wd} {r : (Int32 × Wd)} (hr : f_X1_howManyFields w = some r) : Con d yX1_howManyFields cX1_howManyFields 4 (some .int) [.ref 17] w (some (.int r.1)) r.2 := by
  refine Con_of (by decide) (Nat.le_of_ble_eq_true rfl) (fun X hX hE => ?_)
  have hX : bOk cX1_howManyFields 4 RX1 d X := hX
  show bV X 0 [some (.ref 17), none, none, none] [] w
  obtain ⟨d, rfl⟩ : ∃ e, d = e + 1 := ⟨d - 1, by omega⟩
  unfold f_X1_howManyFields at hr
  refine V_aload_n hX dX1_howManyFields_0 rfl rfl ?_
  obtain ⟨q1, hq1, hr⟩ := bnd hr
  refine C_RX1_86 hX (c_X1_linkAll (by omega) hq1) (Nat.le_of_ble_eq_true rfl) dX1_howManyFields_1 ?_
  refine V_iconst hX dX1_howManyFields_4 ic_0 ?_
  refine V_istore_n hX dX1_howManyFields_5 rfl (Nat.le_of_ble_eq_true rfl) rfl ?_
  refine V_iconst hX dX1_howManyFields_6 ic_0 ?_
  refine V_istore_n hX dX1_howManyFields_7 rfl (Nat.le_of_ble_eq_true rfl) rfl ?_
  refine V_iconst hX dX1_howManyFields_8 ic_0 ?_
  refine V_istore_n hX dX1_howManyFields_9 rfl (Nat.le_of_ble_eq_true rfl) rfl ?_
  refine V_mask [true, true, true, true] ?_
  exact v_X1_howManyFields_10 hd9 hX hE _ _ _ _ _ hr
