def f_X0_part (p0 : Int32) (p1 : Int32) (w : Wd) : Option (Int32 × Wd) := Option.bind (f_X9_at 6 ((p0 * 9) + p1) w) fun q1 =>
    some (q1.1, q1.2)
set_option maxRecDepth 100000 in
set_option maxHeartbeats 4000000 in
theorem c_X0_part {d : Nat} (hd9 : 1 ≤ d) {p0 : Int32} {p1 : Int32} {w : Wd} {r : (Int32 × Wd)} (hr : f_X0_part p0 p1 w = some r) : Con d yX0_part cX0_part 3 (some .int) [.ref 5, .int p0, .int p1] w (some (.int r.1)) r.2 := by
  refine Con_of (by decide) (Nat.le_of_ble_eq_true rfl) (fun X hX hE => ?_)
  have hX : bOk cX0_part 3 RX0 d X := hX
  show bV X 0 [some (.ref 5), some (.int p0), some (.int p1)] [] w
  obtain ⟨d, rfl⟩ : ∃ e, d = e + 1 := ⟨d - 1, by omega⟩
  unfold f_X0_part at hr
  refine V_aload_n hX dX0_part_0 rfl rfl ?_
  refine G_RX0_11 hX dX0_part_1 ?_
  refine V_iload_n hX dX0_part_4 rfl rfl ?_
  refine V_bipush hX dX0_part_5 bp_9 ?_
  refine V_imul hX dX0_part_7 ?_
  refine V_iload_n hX dX0_part_8 rfl rfl ?_
  refine V_iadd hX dX0_part_9 ?_
  obtain ⟨q1, hq1, hr⟩ := bnd hr
  refine C_RX0_52 hX (c_X9_at (by omega) hq1) (Nat.le_of_ble_eq_true rfl) dX0_part_10 ?_
  cases hr
  exact V_iret hX hE rfl dX0_part_13
def f_X0_tellBundle_3 : Nat → Int32 → Int32 → Int32 → Wd → Option Wd
  | 0, _, _, _, _ => none
  | n + 1, x2, x3, x4, w => if 9 ≤ x4 then
        (Option.bind (f_X0_part x3 2 w) fun q1 =>
        Option.bind (f_X0_part x3 0 q1.2) fun q2 =>
        Option.bind (f_X9_put 7 (x3 * 4) q2.1 q2.2) fun q3 =>
        Option.bind (f_X0_part x3 1 q3) fun q4 =>
        Option.bind (f_X9_put 7 ((x3 * 4) + 1) q4.1 q4.2) fun q5 =>
        Option.bind (f_X0_part x3 5 q5) fun q6 =>
        Option.bind (f_X9_put 7 (((x3 * 4) + 2) + q1.1) q6.1 q6.2) fun q7 =>
        Option.bind (f_X0_part x3 3 q7) fun q8 =>
        Option.bind (f_X0_part x3 4 q8.2) fun q9 =>
        Option.bind (f_X9_put 7 (((x3 * 4) + 2) + (1 - q1.1)) (q8.1 * q9.1) q9.2) fun q10 =>
        some (wS q10 5 0 ((q10.1 5 0) ||| (jshl 1 x3))))
      else
        (Option.bind (f_X4_number x2 (x4 + 1) w) fun q1 =>
        Option.bind (f_X9_put 6 ((x3 * 9) + x4) q1.1 q1.2) fun q2 =>
        f_X0_tellBundle_3 n x2 x3 (x4 + 1) q2)
def f_X0_tellBundle (p1 : Int32) (p2 : Int32) (w : Wd) : Option Wd := f_X0_tellBundle_3 fu p1 p2 0 w
set_option maxRecDepth 100000 in
set_option maxHeartbeats 4000000 in
theorem v_X0_tellBundle_3 {d : Nat} (hd9 : 2 ≤ d) {X : bX} (hX : bOk cX0_tellBundle 6 RX0 d X) {r : Wd} (hE : bEnd none none r X) : ∀ (n : Nat) (x2 : Int32) (x3 : Int32) (x4 : Int32) (w : Wd), f_X0_tellBundle_3 n x2 x3 x4 w = some r → bV X 3 [some (.ref 5), some (.ref 3), some (.int x2), some (.int x3), some (.int x4), none] [] w := by
  obtain ⟨d, rfl⟩ : ∃ e, d = e + 1 := ⟨d - 1, by omega⟩
  intro n
  induction n with
  | zero => intro x2 x3 x4 w hr; exact absurd hr (by simp [f_X0_tellBundle_3])
  | succ n ih =>
    intro x2 x3 x4 w hr
    rw [f_X0_tellBundle_3] at hr
    refine V_iload hX dX0_tellBundle_3 rfl ?_
    refine V_bipush hX dX0_tellBundle_5 bp_9 ?_
    refine V_icmp_ge (tgt := 39) hX dX0_tellBundle_7 (by decide) (fun h7 => ?_) (fun h7 => ?_)
    · rw [if_pos h7] at hr
      refine V_aload_n hX dX0_tellBundle_39 rfl rfl ?_
      refine V_iload_n hX dX0_tellBundle_40 rfl rfl ?_
      refine V_iconst hX dX0_tellBundle_41 ic_2 ?_
      obtain ⟨q1, hq1, hr⟩ := bnd hr
      refine C_RX0_56 hX (c_X0_part (by omega) hq1) (Nat.le_of_ble_eq_true rfl) dX0_tellBundle_42 ?_
      refine V_istore hX dX0_tellBundle_45 (Nat.le_of_ble_eq_true rfl) rfl ?_
      refine V_iconst hX dX0_tellBundle_47 ic_1 ?_
      refine V_iload hX dX0_tellBundle_48 rfl ?_
      refine V_isub hX dX0_tellBundle_50 ?_
      refine V_istore hX dX0_tellBundle_51 (Nat.le_of_ble_eq_true rfl) rfl ?_
      refine V_aload_n hX dX0_tellBundle_53 rfl rfl ?_
      refine G_RX0_15 hX dX0_tellBundle_54 ?_
      refine V_iload_n hX dX0_tellBundle_57 rfl rfl ?_
      refine V_iconst hX dX0_tellBundle_58 ic_4 ?_
      refine V_imul hX dX0_tellBundle_59 ?_
      refine V_aload_n hX dX0_tellBundle_60 rfl rfl ?_
      refine V_iload_n hX dX0_tellBundle_61 rfl rfl ?_
      refine V_iconst hX dX0_tellBundle_62 ic_0 ?_
      obtain ⟨q2, hq2, hr⟩ := bnd hr
      refine C_RX0_56 hX (c_X0_part (by omega) hq2) (Nat.le_of_ble_eq_true rfl) dX0_tellBundle_63 ?_
      obtain ⟨q3, hq3, hr⟩ := bnd hr
      refine C_RX0_37 hX (c_X9_put (by omega) hq3) (Nat.le_of_ble_eq_true rfl) dX0_tellBundle_66 ?_
      refine V_aload_n hX dX0_tellBundle_69 rfl rfl ?_
      refine G_RX0_15 hX dX0_tellBundle_70 ?_
      refine V_iload_n hX dX0_tellBundle_73 rfl rfl ?_
      refine V_iconst hX dX0_tellBundle_74 ic_4 ?_
      refine V_imul hX dX0_tellBundle_75 ?_
      refine V_iconst hX dX0_tellBundle_76 ic_1 ?_
      refine V_iadd hX dX0_tellBundle_77 ?_
      refine V_aload_n hX dX0_tellBundle_78 rfl rfl ?_
      refine V_iload_n hX dX0_tellBundle_79 rfl rfl ?_
      refine V_iconst hX dX0_tellBundle_80 ic_1 ?_
      obtain ⟨q4, hq4, hr⟩ := bnd hr
      refine C_RX0_56 hX (c_X0_part (by omega) hq4) (Nat.le_of_ble_eq_true rfl) dX0_tellBundle_81 ?_
      obtain ⟨q5, hq5, hr⟩ := bnd hr
      refine C_RX0_37 hX (c_X9_put (by omega) hq5) (Nat.le_of_ble_eq_true rfl) dX0_tellBundle_84 ?_
      refine V_aload_n hX dX0_tellBundle_87 rfl rfl ?_
      refine G_RX0_15 hX dX0_tellBundle_88 ?_
      refine V_iload_n hX dX0_tellBundle_91 rfl rfl ?_
      refine V_iconst hX dX0_tellBundle_92 ic_4 ?_
      refine V_imul hX dX0_tellBundle_93 ?_
      refine V_iconst hX dX0_tellBundle_94 ic_2 ?_
      refine V_iadd hX dX0_tellBundle_95 ?_
      refine V_iload hX dX0_tellBundle_96 rfl ?_
      refine V_iadd hX dX0_tellBundle_98 ?_
      refine V_aload_n hX dX0_tellBundle_99 rfl rfl ?_
      refine V_iload_n hX dX0_tellBundle_100 rfl rfl ?_
      refine V_iconst hX dX0_tellBundle_101 ic_5 ?_
      obtain ⟨q6, hq6, hr⟩ := bnd hr
      refine C_RX0_56 hX (c_X0_part (by omega) hq6) (Nat.le_of_ble_eq_true rfl) dX0_tellBundle_102 ?_
      obtain ⟨q7, hq7, hr⟩ := bnd hr
      refine C_RX0_37 hX (c_X9_put (by omega) hq7) (Nat.le_of_ble_eq_true rfl) dX0_tellBundle_105 ?_
      refine V_aload_n hX dX0_tellBundle_108 rfl rfl ?_
      refine G_RX0_15 hX dX0_tellBundle_109 ?_
      refine V_iload_n hX dX0_tellBundle_112 rfl rfl ?_
      refine V_iconst hX dX0_tellBundle_113 ic_4 ?_
      refine V_imul hX dX0_tellBundle_114 ?_
      refine V_iconst hX dX0_tellBundle_115 ic_2 ?_
      refine V_iadd hX dX0_tellBundle_116 ?_
      refine V_iload hX dX0_tellBundle_117 rfl ?_
      refine V_iadd hX dX0_tellBundle_119 ?_
      refine V_aload_n hX dX0_tellBundle_120 rfl rfl ?_
      refine V_iload_n hX dX0_tellBundle_121 rfl rfl ?_
      refine V_iconst hX dX0_tellBundle_122 ic_3 ?_
      obtain ⟨q8, hq8, hr⟩ := bnd hr
      refine C_RX0_56 hX (c_X0_part (by omega) hq8) (Nat.le_of_ble_eq_true rfl) dX0_tellBundle_123 ?_
      refine V_aload_n hX dX0_tellBundle_126 rfl rfl ?_
      refine V_iload_n hX dX0_tellBundle_127 rfl rfl ?_
      refine V_iconst hX dX0_tellBundle_128 ic_4 ?_
      obtain ⟨q9, hq9, hr⟩ := bnd hr
      refine C_RX0_56 hX (c_X0_part (by omega) hq9) (Nat.le_of_ble_eq_true rfl) dX0_tellBundle_129 ?_
      refine V_imul hX dX0_tellBundle_132 ?_
      obtain ⟨q10, hq10, hr⟩ := bnd hr
      refine C_RX0_37 hX (c_X9_put (by omega) hq10) (Nat.le_of_ble_eq_true rfl) dX0_tellBundle_133 ?_
      refine V_aload_n hX dX0_tellBundle_136 rfl rfl ?_
      refine V_dup hX dX0_tellBundle_137 rfl ?_
      refine G_RX0_45 hX dX0_tellBundle_138 ?_
      refine V_iconst hX dX0_tellBundle_141 ic_1 ?_
      refine V_iload_n hX dX0_tellBundle_142 rfl rfl ?_
      refine V_ishl hX dX0_tellBundle_143 ?_
      refine V_ior hX dX0_tellBundle_144 ?_
      refine P_RX0_45 hX dX0_tellBundle_145 ?_
      cases hr
      exact V_vret hX hE dX0_tellBundle_148
    · rw [if_neg h7] at hr
      refine V_aload_n hX dX0_tellBundle_10 rfl rfl ?_
      refine G_RX0_11 hX dX0_tellBundle_11 ?_
      refine V_iload_n hX dX0_tellBundle_14 rfl rfl ?_
      refine V_bipush hX dX0_tellBundle_15 bp_9 ?_
      refine V_imul hX dX0_tellBundle_17 ?_
      refine V_iload hX dX0_tellBundle_18 rfl ?_
      refine V_iadd hX dX0_tellBundle_20 ?_
      refine V_aload_n hX dX0_tellBundle_21 rfl rfl ?_
      refine V_iload_n hX dX0_tellBundle_22 rfl rfl ?_
      refine V_iload hX dX0_tellBundle_23 rfl ?_
      refine V_iconst hX dX0_tellBundle_25 ic_1 ?_
      refine V_iadd hX dX0_tellBundle_26 ?_
      obtain ⟨q1, hq1, hr⟩ := bnd hr
      refine C_RX0_80 hX (c_X4_number (by omega) hq1) (Nat.le_of_ble_eq_true rfl) dX0_tellBundle_27 ?_
      obtain ⟨q2, hq2, hr⟩ := bnd hr
      refine C_RX0_37 hX (c_X9_put (by omega) hq2) (Nat.le_of_ble_eq_true rfl) dX0_tellBundle_30 ?_
      refine V_iinc hX dX0_tellBundle_33 rfl (ii_1 _) (Nat.le_of_ble_eq_true rfl) rfl ?_
      refine V_goto (tgt := 3) hX dX0_tellBundle_36 (by decide) ?_
      refine V_mask [true, true, true, true, true, false] ?_
      exact ih _ _ _ _ hr
set_option maxRecDepth 100000 in
set_option maxHeartbeats 4000000 in
theorem c_X0_tellBundle {d : Nat} (hd9 : 2 ≤ d) {p1 : Int32} {p2 : Int32} {w : Wd} {r : Wd} (hr : f_X0_tellBundle p1 p2 w = some r) : Con d yX0_tellBundle cX0_tellBundle 6 none [.ref 5, .ref 3, .int p1, .int p2] w none r := by
  refine Con_of (by decide) (Nat.le_of_ble_eq_true rfl) (fun X hX hE => ?_)
  have hX : bOk cX0_tellBundle 6 RX0 d X := hX
  show bV X 0 [some (.ref 5), some (.ref 3), some (.int p1), some (.int p2), none, none] [] w
  obtain ⟨d, rfl⟩ : ∃ e, d = e + 1 := ⟨d - 1, by omega⟩
  unfold f_X0_tellBundle at hr
  refine V_iconst hX dX0_tellBundle_0 ic_0 ?_
  refine V_istore hX dX0_tellBundle_1 (Nat.le_of_ble_eq_true rfl) rfl ?_
  refine V_mask [true, true, true, true, true, false] ?_
  exact v_X0_tellBundle_3 hd9 hX hE _ _ _ _ _ hr
def f_X0_tellMark_3 : Nat → Int32 → Int32 → Int32 → Wd → Option Wd
  | 0, _, _, _, _ => none
  | n + 1, x2, x3, x4, w => if 4 ≤ x4 then
        (some (wS w 5 0 ((w.1 5 0) ||| (jshl 1 x3))))
      else
        (Option.bind (f_X4_number x2 (x4 + 1) w) fun q1 =>
        Option.bind (f_X9_put 7 ((x3 * 4) + x4) q1.1 q1.2) fun q2 =>
        f_X0_tellMark_3 n x2 x3 (x4 + 1) q2)
def f_X0_tellMark (p1 : Int32) (p2 : Int32) (w : Wd) : Option Wd := f_X0_tellMark_3 fu p1 p2 0 w
set_option maxRecDepth 100000 in
set_option maxHeartbeats 4000000 in
theorem v_X0_tellMark_3 {d : Nat} (hd9 : 2 ≤ d) {X : bX} (hX : bOk cX0_tellMark 5 RX0 d X) {r : Wd} (hE : bEnd none none r X) : ∀ (n : Nat) (x2 : Int32) (x3 : Int32) (x4 : Int32) (w : Wd), f_X0_tellMark_3 n x2 x3 x4 w = some r → bV X 3 [some (.ref 5), some (.ref 3), some (.int x2), some (.int x3), some (.int x4)] [] w := by
  obtain ⟨d, rfl⟩ : ∃ e, d = e + 1 := ⟨d - 1, by omega⟩
  intro n
  induction n with
  | zero => intro x2 x3 x4 w hr; exact absurd hr (by simp [f_X0_tellMark_3])
  | succ n ih =>
    intro x2 x3 x4 w hr
    rw [f_X0_tellMark_3] at hr
    refine V_iload hX dX0_tellMark_3 rfl ?_
    refine V_iconst hX dX0_tellMark_5 ic_4 ?_
    refine V_icmp_ge (tgt := 37) hX dX0_tellMark_6 (by decide) (fun h6 => ?_) (fun h6 => ?_)
    · rw [if_pos h6] at hr
      refine V_aload_n hX dX0_tellMark_37 rfl rfl ?_
      refine V_dup hX dX0_tellMark_38 rfl ?_
      refine G_RX0_45 hX dX0_tellMark_39 ?_
      refine V_iconst hX dX0_tellMark_42 ic_1 ?_
      refine V_iload_n hX dX0_tellMark_43 rfl rfl ?_
      refine V_ishl hX dX0_tellMark_44 ?_
      refine V_ior hX dX0_tellMark_45 ?_
      refine P_RX0_45 hX dX0_tellMark_46 ?_
      cases hr
      exact V_vret hX hE dX0_tellMark_49
    · rw [if_neg h6] at hr
      refine V_aload_n hX dX0_tellMark_9 rfl rfl ?_
      refine G_RX0_15 hX dX0_tellMark_10 ?_
      refine V_iload_n hX dX0_tellMark_13 rfl rfl ?_
      refine V_iconst hX dX0_tellMark_14 ic_4 ?_
      refine V_imul hX dX0_tellMark_15 ?_
      refine V_iload hX dX0_tellMark_16 rfl ?_
      refine V_iadd hX dX0_tellMark_18 ?_
      refine V_aload_n hX dX0_tellMark_19 rfl rfl ?_
      refine V_iload_n hX dX0_tellMark_20 rfl rfl ?_
      refine V_iload hX dX0_tellMark_21 rfl ?_
      refine V_iconst hX dX0_tellMark_23 ic_1 ?_
      refine V_iadd hX dX0_tellMark_24 ?_
      obtain ⟨q1, hq1, hr⟩ := bnd hr
      refine C_RX0_80 hX (c_X4_number (by omega) hq1) (Nat.le_of_ble_eq_true rfl) dX0_tellMark_25 ?_
      obtain ⟨q2, hq2, hr⟩ := bnd hr
      refine C_RX0_37 hX (c_X9_put (by omega) hq2) (Nat.le_of_ble_eq_true rfl) dX0_tellMark_28 ?_
      refine V_iinc hX dX0_tellMark_31 rfl (ii_1 _) (Nat.le_of_ble_eq_true rfl) rfl ?_
      refine V_goto (tgt := 3) hX dX0_tellMark_34 (by decide) ?_
      refine V_mask [true, true, true, true, true] ?_
      exact ih _ _ _ _ hr
set_option maxRecDepth 100000 in
set_option maxHeartbeats 4000000 in
theorem c_X0_tellMark {d : Nat} (hd9 : 2 ≤ d) {p1 : Int32} {p2 : Int32} {w : Wd} {r : Wd} (hr : f_X0_tellMark p1 p2 w = some r) : Con d yX0_tellMark cX0_tellMark 5 none [.ref 5, .ref 3, .int p1, .int p2] w none r := by
  refine Con_of (by decide) (Nat.le_of_ble_eq_true rfl) (fun X hX hE => ?_)
  have hX : bOk cX0_tellMark 5 RX0 d X := hX
  show bV X 0 [some (.ref 5), some (.ref 3), some (.int p1), some (.int p2), none] [] w
  obtain ⟨d, rfl⟩ : ∃ e, d = e + 1 := ⟨d - 1, by omega⟩
  unfold f_X0_tellMark at hr
  refine V_iconst hX dX0_tellMark_0 ic_0 ?_
  refine V_istore hX dX0_tellMark_1 (Nat.le_of_ble_eq_true rfl) rfl ?_
  refine V_mask [true, true, true, true, true] ?_
  exact v_X0_tellMark_3 hd9 hX hE _ _ _ _ _ hr
def f_X0_tellPair (p0 : Int32) (p1 : Int32) (w : Wd) : Option Wd := Option.bind (f_X9_at 10 p0 w) fun q1 =>
    Option.bind (f_X9_has q1.1 p1 q1.2) fun q2 =>
    if q2.1 = 0 then
      (if 24 ≤ (q2.2.1 5 6) then
        (some q2.2)
      else
        (Option.bind (f_X9_put 10 p0 (q1.1 ||| (jshl 1 p1)) q2.2) fun q3 =>
        some (wS q3 5 6 ((q3.1 5 6) + 1))))
    else
      (some q2.2)
set_option maxRecDepth 100000 in
set_option maxHeartbeats 4000000 in
theorem c_X0_tellPair {d : Nat} (hd9 : 1 ≤ d) {p0 : Int32} {p1 : Int32} {w : Wd} {r : Wd} (hr : f_X0_tellPair p0 p1 w = some r) : Con d yX0_tellPair cX0_tellPair 4 none [.ref 5, .int p0, .int p1] w none r := by
  refine Con_of (by decide) (Nat.le_of_ble_eq_true rfl) (fun X hX hE => ?_)
  have hX : bOk cX0_tellPair 4 RX0 d X := hX
  show bV X 0 [some (.ref 5), some (.int p0), some (.int p1), none] [] w
  obtain ⟨d, rfl⟩ : ∃ e, d = e + 1 := ⟨d - 1, by omega⟩
  unfold f_X0_tellPair at hr
  refine V_aload_n hX dX0_tellPair_0 rfl rfl ?_
  refine G_RX0_24 hX dX0_tellPair_1 ?_
  refine V_iload_n hX dX0_tellPair_4 rfl rfl ?_
  obtain ⟨q1, hq1, hr⟩ := bnd hr
  refine C_RX0_52 hX (c_X9_at (by omega) hq1) (Nat.le_of_ble_eq_true rfl) dX0_tellPair_5 ?_
  refine V_istore_n hX dX0_tellPair_8 rfl (Nat.le_of_ble_eq_true rfl) rfl ?_
  refine V_iload_n hX dX0_tellPair_9 rfl rfl ?_
  refine V_iload_n hX dX0_tellPair_10 rfl rfl ?_
  obtain ⟨q2, hq2, hr⟩ := bnd hr
  refine C_RX0_48 hX (c_X9_has (by omega) hq2) (Nat.le_of_ble_eq_true rfl) dX0_tellPair_11 ?_
  refine V_if_ne (tgt := 49) hX dX0_tellPair_14 (by decide) (fun h14 => ?_) (fun h14 => ?_)
  · rw [if_neg h14] at hr
    cases hr
    exact V_vret hX hE dX0_tellPair_49
  · rw [if_pos h14] at hr
    refine V_aload_n hX dX0_tellPair_17 rfl rfl ?_
    refine G_RX0_103 hX dX0_tellPair_18 ?_
    refine V_bipush hX dX0_tellPair_21 bp_24 ?_
    refine V_icmp_ge (tgt := 49) hX dX0_tellPair_23 (by decide) (fun h23 => ?_) (fun h23 => ?_)
    · rw [if_pos h23] at hr
      cases hr
      exact V_vret hX hE dX0_tellPair_49
    · rw [if_neg h23] at hr
      refine V_aload_n hX dX0_tellPair_26 rfl rfl ?_
      refine G_RX0_24 hX dX0_tellPair_27 ?_
      refine V_iload_n hX dX0_tellPair_30 rfl rfl ?_
      refine V_iload_n hX dX0_tellPair_31 rfl rfl ?_
      refine V_iconst hX dX0_tellPair_32 ic_1 ?_
      refine V_iload_n hX dX0_tellPair_33 rfl rfl ?_
      refine V_ishl hX dX0_tellPair_34 ?_
      refine V_ior hX dX0_tellPair_35 ?_
      obtain ⟨q3, hq3, hr⟩ := bnd hr
      refine C_RX0_37 hX (c_X9_put (by omega) hq3) (Nat.le_of_ble_eq_true rfl) dX0_tellPair_36 ?_
      refine V_aload_n hX dX0_tellPair_39 rfl rfl ?_
      refine V_dup hX dX0_tellPair_40 rfl ?_
      refine G_RX0_103 hX dX0_tellPair_41 ?_
      refine V_iconst hX dX0_tellPair_44 ic_1 ?_
      refine V_iadd hX dX0_tellPair_45 ?_
      refine P_RX0_103 hX dX0_tellPair_46 ?_
      cases hr
      exact V_vret hX hE dX0_tellPair_49
def f_X0_tellTeam_3 : Nat → Int32 → Int32 → Int32 → Wd → Option Wd
  | 0, _, _, _, _ => none
  | n + 1, x2, x3, x4, w => if 4 ≤ x4 then
        (some (wS w 5 7 ((w.1 5 7) ||| (jshl 1 x3))))
      else
        (Option.bind (f_X4_number x2 (x4 + 1) w) fun q1 =>
        Option.bind (f_X9_put 11 ((x3 * 4) + x4) q1.1 q1.2) fun q2 =>
        f_X0_tellTeam_3 n x2 x3 (x4 + 1) q2)
def f_X0_tellTeam (p1 : Int32) (p2 : Int32) (w : Wd) : Option Wd := f_X0_tellTeam_3 fu p1 p2 0 w
set_option maxRecDepth 100000 in
set_option maxHeartbeats 4000000 in
theorem v_X0_tellTeam_3 {d : Nat} (hd9 : 2 ≤ d) {X : bX} (hX : bOk cX0_tellTeam 5 RX0 d X) {r : Wd} (hE : bEnd none none r X) : ∀ (n : Nat) (x2 : Int32) (x3 : Int32) (x4 : Int32) (w : Wd), f_X0_tellTeam_3 n x2 x3 x4 w = some r → bV X 3 [some (.ref 5), some (.ref 3), some (.int x2), some (.int x3), some (.int x4)] [] w := by
  obtain ⟨d, rfl⟩ : ∃ e, d = e + 1 := ⟨d - 1, by omega⟩
  intro n
  induction n with
  | zero => intro x2 x3 x4 w hr; exact absurd hr (by simp [f_X0_tellTeam_3])
  | succ n ih =>
    intro x2 x3 x4 w hr
    rw [f_X0_tellTeam_3] at hr
    refine V_iload hX dX0_tellTeam_3 rfl ?_
    refine V_iconst hX dX0_tellTeam_5 ic_4 ?_
    refine V_icmp_ge (tgt := 37) hX dX0_tellTeam_6 (by decide) (fun h6 => ?_) (fun h6 => ?_)
    · rw [if_pos h6] at hr
      refine V_aload_n hX dX0_tellTeam_37 rfl rfl ?_
      refine V_dup hX dX0_tellTeam_38 rfl ?_
      refine G_RX0_74 hX dX0_tellTeam_39 ?_
      refine V_iconst hX dX0_tellTeam_42 ic_1 ?_
      refine V_iload_n hX dX0_tellTeam_43 rfl rfl ?_
      refine V_ishl hX dX0_tellTeam_44 ?_
      refine V_ior hX dX0_tellTeam_45 ?_
      refine P_RX0_74 hX dX0_tellTeam_46 ?_
      cases hr
      exact V_vret hX hE dX0_tellTeam_49
    · rw [if_neg h6] at hr
      refine V_aload_n hX dX0_tellTeam_9 rfl rfl ?_
      refine G_RX0_27 hX dX0_tellTeam_10 ?_
      refine V_iload_n hX dX0_tellTeam_13 rfl rfl ?_
      refine V_iconst hX dX0_tellTeam_14 ic_4 ?_
      refine V_imul hX dX0_tellTeam_15 ?_
      refine V_iload hX dX0_tellTeam_16 rfl ?_
      refine V_iadd hX dX0_tellTeam_18 ?_
      refine V_aload_n hX dX0_tellTeam_19 rfl rfl ?_
      refine V_iload_n hX dX0_tellTeam_20 rfl rfl ?_
      refine V_iload hX dX0_tellTeam_21 rfl ?_
      refine V_iconst hX dX0_tellTeam_23 ic_1 ?_
      refine V_iadd hX dX0_tellTeam_24 ?_
      obtain ⟨q1, hq1, hr⟩ := bnd hr
      refine C_RX0_80 hX (c_X4_number (by omega) hq1) (Nat.le_of_ble_eq_true rfl) dX0_tellTeam_25 ?_
      obtain ⟨q2, hq2, hr⟩ := bnd hr
      refine C_RX0_37 hX (c_X9_put (by omega) hq2) (Nat.le_of_ble_eq_true rfl) dX0_tellTeam_28 ?_
      refine V_iinc hX dX0_tellTeam_31 rfl (ii_1 _) (Nat.le_of_ble_eq_true rfl) rfl ?_
      refine V_goto (tgt := 3) hX dX0_tellTeam_34 (by decide) ?_
      refine V_mask [true, true, true, true, true] ?_
      exact ih _ _ _ _ hr
set_option maxRecDepth 100000 in
set_option maxHeartbeats 4000000 in
theorem c_X0_tellTeam {d : Nat} (hd9 : 2 ≤ d) {p1 : Int32} {p2 : Int32} {w : Wd} {r : Wd} (hr : f_X0_tellTeam p1 p2 w = some r) : Con d yX0_tellTeam cX0_tellTeam 5 none [.ref 5, .ref 3, .int p1, .int p2] w none r := by
  refine Con_of (by decide) (Nat.le_of_ble_eq_true rfl) (fun X hX hE => ?_)
  have hX : bOk cX0_tellTeam 5 RX0 d X := hX
  show bV X 0 [some (.ref 5), some (.ref 3), some (.int p1), some (.int p2), none] [] w
  obtain ⟨d, rfl⟩ : ∃ e, d = e + 1 := ⟨d - 1, by omega⟩
  unfold f_X0_tellTeam at hr
  refine V_iconst hX dX0_tellTeam_0 ic_0 ?_
  refine V_istore hX dX0_tellTeam_1 (Nat.le_of_ble_eq_true rfl) rfl ?_
  refine V_mask [true, true, true, true, true] ?_
  exact v_X0_tellTeam_3 hd9 hX hE _ _ _ _ _ hr
def f_X0_doLine (p1 : Int32) (w : Wd) : Option Wd := Option.bind (f_X4_number p1 0 w) fun q1 =>
    Option.bind (f_X4_kindOf p1 q1.2) fun q2 =>
    if q2.1 = 0 then
      (Option.bind (f_X0_tellBundle p1 q1.1 q2.2) fun q3 =>
      some q3)
    else if q2.1 = 1 then
      (Option.bind (f_X0_tellMark p1 q1.1 q2.2) fun q3 =>
      some q3)
    else if q2.1 = 2 then
      (Option.bind (f_X4_number p1 1 q2.2) fun q3 =>
      Option.bind (f_X9_put 8 q1.1 q3.1 q3.2) fun q4 =>
      Option.bind (f_X4_number p1 2 q4) fun q5 =>
      Option.bind (f_X9_put 9 q1.1 q5.1 q5.2) fun q6 =>
      some q6)
    else if q2.1 = 3 then
      (Option.bind (f_X4_number p1 1 q2.2) fun q3 =>
      Option.bind (f_X0_tellPair q1.1 q3.1 q3.2) fun q4 =>
      some q4)
    else if q2.1 = 4 then
      (Option.bind (f_X0_tellTeam p1 q1.1 q2.2) fun q3 =>
      some q3)
    else if q2.1 = 5 then
      (some (wS q2.2 5 9 q1.1))
    else (some (wS q2.2 5 10 q1.1))
set_option maxRecDepth 100000 in
set_option maxHeartbeats 4000000 in
theorem c_X0_doLine {d : Nat} (hd9 : 3 ≤ d) {p1 : Int32} {w : Wd} {r : Wd} (hr : f_X0_doLine p1 w = some r) : Con d yX0_doLine cX0_doLine 4 none [.ref 5, .ref 3, .int p1] w none r := by
  refine Con_of (by decide) (Nat.le_of_ble_eq_true rfl) (fun X hX hE => ?_)
  have hX : bOk cX0_doLine 4 RX0 d X := hX
  show bV X 0 [some (.ref 5), some (.ref 3), some (.int p1), none] [] w
  obtain ⟨d, rfl⟩ : ∃ e, d = e + 1 := ⟨d - 1, by omega⟩
  unfold f_X0_doLine at hr
  refine V_aload_n hX dX0_doLine_0 rfl rfl ?_
  refine V_iload_n hX dX0_doLine_1 rfl rfl ?_
  refine V_iconst hX dX0_doLine_2 ic_0 ?_
  obtain ⟨q1, hq1, hr⟩ := bnd hr
  refine C_RX0_80 hX (c_X4_number (by omega) hq1) (Nat.le_of_ble_eq_true rfl) dX0_doLine_3 ?_
  refine V_istore_n hX dX0_doLine_6 rfl (Nat.le_of_ble_eq_true rfl) rfl ?_
  refine V_aload_n hX dX0_doLine_7 rfl rfl ?_
  refine V_iload_n hX dX0_doLine_8 rfl rfl ?_
  obtain ⟨q2, hq2, hr⟩ := bnd hr
  refine C_RX0_85 hX (c_X4_kindOf (by omega) hq2) (Nat.le_of_ble_eq_true rfl) dX0_doLine_9 ?_
  by_cases hs0 : q2.1 = 0
  · rw [if_pos hs0] at hr
    refine V_tableIn (tgt := 52) hX dX0_doLine_12 (by rw [hs0]; decide) (by rw [hs0]; decide) (by rw [hs0]; rfl) (by decide) ?_
    refine V_aload_n hX dX0_doLine_52 rfl rfl ?_
    refine V_aload_n hX dX0_doLine_53 rfl rfl ?_
    refine V_iload_n hX dX0_doLine_54 rfl rfl ?_
    refine V_iload_n hX dX0_doLine_55 rfl rfl ?_
    obtain ⟨q3, hq3, hr⟩ := bnd hr
    refine C_RX0_89 hX (c_X0_tellBundle (by omega) hq3) (Nat.le_of_ble_eq_true rfl) dX0_doLine_56 ?_
    refine V_goto (tgt := 140) hX dX0_doLine_59 (by decide) ?_
    cases hr
    exact V_vret hX hE dX0_doLine_140
  rw [if_neg hs0] at hr
  by_cases hs1 : q2.1 = 1
  · rw [if_pos hs1] at hr
    refine V_tableIn (tgt := 62) hX dX0_doLine_12 (by rw [hs1]; decide) (by rw [hs1]; decide) (by rw [hs1]; rfl) (by decide) ?_
    refine V_aload_n hX dX0_doLine_62 rfl rfl ?_
    refine V_aload_n hX dX0_doLine_63 rfl rfl ?_
    refine V_iload_n hX dX0_doLine_64 rfl rfl ?_
    refine V_iload_n hX dX0_doLine_65 rfl rfl ?_
    obtain ⟨q3, hq3, hr⟩ := bnd hr
    refine C_RX0_93 hX (c_X0_tellMark (by omega) hq3) (Nat.le_of_ble_eq_true rfl) dX0_doLine_66 ?_
    refine V_goto (tgt := 140) hX dX0_doLine_69 (by decide) ?_
    cases hr
    exact V_vret hX hE dX0_doLine_140
  rw [if_neg hs1] at hr
  by_cases hs2 : q2.1 = 2
  · rw [if_pos hs2] at hr
    refine V_tableIn (tgt := 72) hX dX0_doLine_12 (by rw [hs2]; decide) (by rw [hs2]; decide) (by rw [hs2]; rfl) (by decide) ?_
    refine V_aload_n hX dX0_doLine_72 rfl rfl ?_
    refine G_RX0_18 hX dX0_doLine_73 ?_
    refine V_iload_n hX dX0_doLine_76 rfl rfl ?_
    refine V_aload_n hX dX0_doLine_77 rfl rfl ?_
    refine V_iload_n hX dX0_doLine_78 rfl rfl ?_
    refine V_iconst hX dX0_doLine_79 ic_1 ?_
    obtain ⟨q3, hq3, hr⟩ := bnd hr
    refine C_RX0_80 hX (c_X4_number (by omega) hq3) (Nat.le_of_ble_eq_true rfl) dX0_doLine_80 ?_
    obtain ⟨q4, hq4, hr⟩ := bnd hr
    refine C_RX0_37 hX (c_X9_put (by omega) hq4) (Nat.le_of_ble_eq_true rfl) dX0_doLine_83 ?_
    refine V_aload_n hX dX0_doLine_86 rfl rfl ?_
    refine G_RX0_21 hX dX0_doLine_87 ?_
    refine V_iload_n hX dX0_doLine_90 rfl rfl ?_
    refine V_aload_n hX dX0_doLine_91 rfl rfl ?_
    refine V_iload_n hX dX0_doLine_92 rfl rfl ?_
    refine V_iconst hX dX0_doLine_93 ic_2 ?_
    obtain ⟨q5, hq5, hr⟩ := bnd hr
    refine C_RX0_80 hX (c_X4_number (by omega) hq5) (Nat.le_of_ble_eq_true rfl) dX0_doLine_94 ?_
    obtain ⟨q6, hq6, hr⟩ := bnd hr
    refine C_RX0_37 hX (c_X9_put (by omega) hq6) (Nat.le_of_ble_eq_true rfl) dX0_doLine_97 ?_
    refine V_goto (tgt := 140) hX dX0_doLine_100 (by decide) ?_
    cases hr
    exact V_vret hX hE dX0_doLine_140
  rw [if_neg hs2] at hr
  by_cases hs3 : q2.1 = 3
  · rw [if_pos hs3] at hr
    refine V_tableIn (tgt := 103) hX dX0_doLine_12 (by rw [hs3]; decide) (by rw [hs3]; decide) (by rw [hs3]; rfl) (by decide) ?_
    refine V_aload_n hX dX0_doLine_103 rfl rfl ?_
    refine V_iload_n hX dX0_doLine_104 rfl rfl ?_
    refine V_aload_n hX dX0_doLine_105 rfl rfl ?_
    refine V_iload_n hX dX0_doLine_106 rfl rfl ?_
    refine V_iconst hX dX0_doLine_107 ic_1 ?_
    obtain ⟨q3, hq3, hr⟩ := bnd hr
    refine C_RX0_80 hX (c_X4_number (by omega) hq3) (Nat.le_of_ble_eq_true rfl) dX0_doLine_108 ?_
    obtain ⟨q4, hq4, hr⟩ := bnd hr
    refine C_RX0_96 hX (c_X0_tellPair (by omega) hq4) (Nat.le_of_ble_eq_true rfl) dX0_doLine_111 ?_
    refine V_goto (tgt := 140) hX dX0_doLine_114 (by decide) ?_
    cases hr
    exact V_vret hX hE dX0_doLine_140
  rw [if_neg hs3] at hr
  by_cases hs4 : q2.1 = 4
  · rw [if_pos hs4] at hr
    refine V_tableIn (tgt := 117) hX dX0_doLine_12 (by rw [hs4]; decide) (by rw [hs4]; decide) (by rw [hs4]; rfl) (by decide) ?_
    refine V_aload_n hX dX0_doLine_117 rfl rfl ?_
    refine V_aload_n hX dX0_doLine_118 rfl rfl ?_
    refine V_iload_n hX dX0_doLine_119 rfl rfl ?_
    refine V_iload_n hX dX0_doLine_120 rfl rfl ?_
    obtain ⟨q3, hq3, hr⟩ := bnd hr
    refine C_RX0_100 hX (c_X0_tellTeam (by omega) hq3) (Nat.le_of_ble_eq_true rfl) dX0_doLine_121 ?_
    refine V_goto (tgt := 140) hX dX0_doLine_124 (by decide) ?_
    cases hr
    exact V_vret hX hE dX0_doLine_140
  rw [if_neg hs4] at hr
  by_cases hs5 : q2.1 = 5
  · rw [if_pos hs5] at hr
    refine V_tableIn (tgt := 127) hX dX0_doLine_12 (by rw [hs5]; decide) (by rw [hs5]; decide) (by rw [hs5]; rfl) (by decide) ?_
    refine V_aload_n hX dX0_doLine_127 rfl rfl ?_
    refine V_iload_n hX dX0_doLine_128 rfl rfl ?_
    refine P_RX0_30 hX dX0_doLine_129 ?_
    refine V_goto (tgt := 140) hX dX0_doLine_132 (by decide) ?_
    cases hr
    exact V_vret hX hE dX0_doLine_140
  rw [if_neg hs5] at hr
  refine V_tableOut (tgt := 135) hX dX0_doLine_12 (tb_out 5 (fun j hj => by rcases (show j = 0 ∨ j = 1 ∨ j = 2 ∨ j = 3 ∨ j = 4 ∨ j = 5 by omega) with rfl | rfl | rfl | rfl | rfl | rfl <;> assumption)) (by decide) ?_
  refine V_aload_n hX dX0_doLine_135 rfl rfl ?_
  refine V_iload_n hX dX0_doLine_136 rfl rfl ?_
  refine P_RX0_34 hX dX0_doLine_137 ?_
  cases hr
  exact V_vret hX hE dX0_doLine_140
def f_X0_isBundle (p0 : Int32) (w : Wd) : Option (Int32 × Wd) := Option.bind (f_X9_within p0 0 7 w) fun q1 =>
    if q1.1 = 0 then
      (some (0, q1.2))
    else
      (Option.bind (f_X9_has (q1.2.1 5 0) p0 q1.2) fun q2 =>
      if q2.1 = 0 then
        (some (0, q2.2))
      else
        (some (1, q2.2)))
set_option maxRecDepth 100000 in
set_option maxHeartbeats 4000000 in
theorem c_X0_isBundle {d : Nat} (hd9 : 1 ≤ d) {p0 : Int32} {w : Wd} {r : (Int32 × Wd)} (hr : f_X0_isBundle p0 w = some r) : Con d yX0_isBundle cX0_isBundle 2 (some .boolean) [.ref 5, .int p0] w (some (.int r.1)) r.2 := by
  refine Con_of (by decide) (Nat.le_of_ble_eq_true rfl) (fun X hX hE => ?_)
  have hX : bOk cX0_isBundle 2 RX0 d X := hX
  show bV X 0 [some (.ref 5), some (.int p0)] [] w
  obtain ⟨d, rfl⟩ : ∃ e, d = e + 1 := ⟨d - 1, by omega⟩
  unfold f_X0_isBundle at hr
  refine V_iload_n hX dX0_isBundle_0 rfl rfl ?_
  refine V_iconst hX dX0_isBundle_1 ic_0 ?_
  refine V_bipush hX dX0_isBundle_2 bp_7 ?_
  obtain ⟨q1, hq1, hr⟩ := bnd hr
  refine C_RX0_41 hX (c_X9_within (by omega) hq1) (Nat.le_of_ble_eq_true rfl) dX0_isBundle_4 ?_
  refine V_if_eq (tgt := 25) hX dX0_isBundle_7 (by decide) (fun h7 => ?_) (fun h7 => ?_)
  · rw [if_pos h7] at hr
    refine V_iconst hX dX0_isBundle_25 ic_0 ?_
    cases hr
    exact V_iret hX hE rfl dX0_isBundle_26
  · rw [if_neg h7] at hr
    refine V_aload_n hX dX0_isBundle_10 rfl rfl ?_
    refine G_RX0_45 hX dX0_isBundle_11 ?_
    refine V_iload_n hX dX0_isBundle_14 rfl rfl ?_
    obtain ⟨q2, hq2, hr⟩ := bnd hr
    refine C_RX0_48 hX (c_X9_has (by omega) hq2) (Nat.le_of_ble_eq_true rfl) dX0_isBundle_15 ?_
    refine V_if_eq (tgt := 25) hX dX0_isBundle_18 (by decide) (fun h18 => ?_) (fun h18 => ?_)
    · rw [if_pos h18] at hr
      refine V_iconst hX dX0_isBundle_25 ic_0 ?_
      cases hr
      exact V_iret hX hE rfl dX0_isBundle_26
    · rw [if_neg h18] at hr
      refine V_iconst hX dX0_isBundle_21 ic_1 ?_
      refine V_goto (tgt := 26) hX dX0_isBundle_22 (by decide) ?_
      cases hr
      exact V_iret hX hE rfl dX0_isBundle_26
def f_X0_yards (p0 : Int32) (w : Wd) : Option (Int32 × Wd) := Option.bind (f_X0_part p0 3 w) fun q1 =>
    Option.bind (f_X0_part p0 4 q1.2) fun q2 =>
    Option.bind (f_X0_part p0 5 q2.2) fun q3 =>
    some (((q1.1 * q2.1) * q3.1), q3.2)
set_option maxRecDepth 100000 in
set_option maxHeartbeats 4000000 in
theorem c_X0_yards {d : Nat} (hd9 : 2 ≤ d) {p0 : Int32} {w : Wd} {r : (Int32 × Wd)} (hr : f_X0_yards p0 w = some r) : Con d yX0_yards cX0_yards 2 (some .int) [.ref 5, .int p0] w (some (.int r.1)) r.2 := by
  refine Con_of (by decide) (Nat.le_of_ble_eq_true rfl) (fun X hX hE => ?_)
  have hX : bOk cX0_yards 2 RX0 d X := hX
  show bV X 0 [some (.ref 5), some (.int p0)] [] w
  obtain ⟨d, rfl⟩ : ∃ e, d = e + 1 := ⟨d - 1, by omega⟩
  unfold f_X0_yards at hr
  refine V_aload_n hX dX0_yards_0 rfl rfl ?_
  refine V_iload_n hX dX0_yards_1 rfl rfl ?_
  refine V_iconst hX dX0_yards_2 ic_3 ?_
  obtain ⟨q1, hq1, hr⟩ := bnd hr
  refine C_RX0_56 hX (c_X0_part (by omega) hq1) (Nat.le_of_ble_eq_true rfl) dX0_yards_3 ?_
  refine V_aload_n hX dX0_yards_6 rfl rfl ?_
  refine V_iload_n hX dX0_yards_7 rfl rfl ?_
  refine V_iconst hX dX0_yards_8 ic_4 ?_
  obtain ⟨q2, hq2, hr⟩ := bnd hr
  refine C_RX0_56 hX (c_X0_part (by omega) hq2) (Nat.le_of_ble_eq_true rfl) dX0_yards_9 ?_
  refine V_imul hX dX0_yards_12 ?_
  refine V_aload_n hX dX0_yards_13 rfl rfl ?_
  refine V_iload_n hX dX0_yards_14 rfl rfl ?_
  refine V_iconst hX dX0_yards_15 ic_5 ?_
  obtain ⟨q3, hq3, hr⟩ := bnd hr
  refine C_RX0_56 hX (c_X0_part (by omega) hq3) (Nat.le_of_ble_eq_true rfl) dX0_yards_16 ?_
  refine V_imul hX dX0_yards_19 ?_
  cases hr
  exact V_iret hX hE rfl dX0_yards_20
def f_X0_boxPart (p0 : Int32) (p1 : Int32) (w : Wd) : Option (Int32 × Wd) := Option.bind (f_X9_at 7 ((p0 * 4) + p1) w) fun q1 =>
    some (q1.1, q1.2)
set_option maxRecDepth 100000 in
set_option maxHeartbeats 4000000 in
theorem c_X0_boxPart {d : Nat} (hd9 : 1 ≤ d) {p0 : Int32} {p1 : Int32} {w : Wd} {r : (Int32 × Wd)} (hr : f_X0_boxPart p0 p1 w = some r) : Con d yX0_boxPart cX0_boxPart 3 (some .int) [.ref 5, .int p0, .int p1] w (some (.int r.1)) r.2 := by
  refine Con_of (by decide) (Nat.le_of_ble_eq_true rfl) (fun X hX hE => ?_)
  have hX : bOk cX0_boxPart 3 RX0 d X := hX
  show bV X 0 [some (.ref 5), some (.int p0), some (.int p1)] [] w
  obtain ⟨d, rfl⟩ : ∃ e, d = e + 1 := ⟨d - 1, by omega⟩
  unfold f_X0_boxPart at hr
  refine V_aload_n hX dX0_boxPart_0 rfl rfl ?_
  refine G_RX0_15 hX dX0_boxPart_1 ?_
  refine V_iload_n hX dX0_boxPart_4 rfl rfl ?_
  refine V_iconst hX dX0_boxPart_5 ic_4 ?_
  refine V_imul hX dX0_boxPart_6 ?_
  refine V_iload_n hX dX0_boxPart_7 rfl rfl ?_
  refine V_iadd hX dX0_boxPart_8 ?_
  obtain ⟨q1, hq1, hr⟩ := bnd hr
  refine C_RX0_52 hX (c_X9_at (by omega) hq1) (Nat.le_of_ble_eq_true rfl) dX0_boxPart_9 ?_
  cases hr
  exact V_iret hX hE rfl dX0_boxPart_12
def f_X0_isThing (p0 : Int32) (w : Wd) : Option (Int32 × Wd) := Option.bind (f_X9_within p0 0 13 w) fun q1 =>
    if q1.1 = 0 then
      (some (0, q1.2))
    else
      (Option.bind (f_X9_has (q1.2.1 5 0) p0 q1.2) fun q2 =>
      if q2.1 = 0 then
        (some (0, q2.2))
      else
        (some (1, q2.2)))
set_option maxRecDepth 100000 in
set_option maxHeartbeats 4000000 in
theorem c_X0_isThing {d : Nat} (hd9 : 1 ≤ d) {p0 : Int32} {w : Wd} {r : (Int32 × Wd)} (hr : f_X0_isThing p0 w = some r) : Con d yX0_isThing cX0_isThing 2 (some .boolean) [.ref 5, .int p0] w (some (.int r.1)) r.2 := by
  refine Con_of (by decide) (Nat.le_of_ble_eq_true rfl) (fun X hX hE => ?_)
  have hX : bOk cX0_isThing 2 RX0 d X := hX
  show bV X 0 [some (.ref 5), some (.int p0)] [] w
  obtain ⟨d, rfl⟩ : ∃ e, d = e + 1 := ⟨d - 1, by omega⟩
  unfold f_X0_isThing at hr
  refine V_iload_n hX dX0_isThing_0 rfl rfl ?_
  refine V_iconst hX dX0_isThing_1 ic_0 ?_
  refine V_bipush hX dX0_isThing_2 bp_13 ?_
  obtain ⟨q1, hq1, hr⟩ := bnd hr
  refine C_RX0_41 hX (c_X9_within (by omega) hq1) (Nat.le_of_ble_eq_true rfl) dX0_isThing_4 ?_
  refine V_if_eq (tgt := 25) hX dX0_isThing_7 (by decide) (fun h7 => ?_) (fun h7 => ?_)
  · rw [if_pos h7] at hr
    refine V_iconst hX dX0_isThing_25 ic_0 ?_
    cases hr
    exact V_iret hX hE rfl dX0_isThing_26
  · rw [if_neg h7] at hr
    refine V_aload_n hX dX0_isThing_10 rfl rfl ?_
    refine G_RX0_45 hX dX0_isThing_11 ?_
    refine V_iload_n hX dX0_isThing_14 rfl rfl ?_
    obtain ⟨q2, hq2, hr⟩ := bnd hr
    refine C_RX0_48 hX (c_X9_has (by omega) hq2) (Nat.le_of_ble_eq_true rfl) dX0_isThing_15 ?_
    refine V_if_eq (tgt := 25) hX dX0_isThing_18 (by decide) (fun h18 => ?_) (fun h18 => ?_)
    · rw [if_pos h18] at hr
      refine V_iconst hX dX0_isThing_25 ic_0 ?_
      cases hr
      exact V_iret hX hE rfl dX0_isThing_26
    · rw [if_neg h18] at hr
      refine V_iconst hX dX0_isThing_21 ic_1 ?_
      refine V_goto (tgt := 26) hX dX0_isThing_22 (by decide) ?_
      cases hr
      exact V_iret hX hE rfl dX0_isThing_26
def f_X0_teamPart (p0 : Int32) (p1 : Int32) (w : Wd) : Option (Int32 × Wd) := Option.bind (f_X9_at 11 ((p0 * 4) + p1) w) fun q1 =>
    some (q1.1, q1.2)
set_option maxRecDepth 100000 in
set_option maxHeartbeats 4000000 in
theorem c_X0_teamPart {d : Nat} (hd9 : 1 ≤ d) {p0 : Int32} {p1 : Int32} {w : Wd} {r : (Int32 × Wd)} (hr : f_X0_teamPart p0 p1 w = some r) : Con d yX0_teamPart cX0_teamPart 3 (some .int) [.ref 5, .int p0, .int p1] w (some (.int r.1)) r.2 := by
  refine Con_of (by decide) (Nat.le_of_ble_eq_true rfl) (fun X hX hE => ?_)
  have hX : bOk cX0_teamPart 3 RX0 d X := hX
  show bV X 0 [some (.ref 5), some (.int p0), some (.int p1)] [] w
  obtain ⟨d, rfl⟩ : ∃ e, d = e + 1 := ⟨d - 1, by omega⟩
  unfold f_X0_teamPart at hr
  refine V_aload_n hX dX0_teamPart_0 rfl rfl ?_
  refine G_RX0_27 hX dX0_teamPart_1 ?_
  refine V_iload_n hX dX0_teamPart_4 rfl rfl ?_
  refine V_iconst hX dX0_teamPart_5 ic_4 ?_
  refine V_imul hX dX0_teamPart_6 ?_
  refine V_iload_n hX dX0_teamPart_7 rfl rfl ?_
  refine V_iadd hX dX0_teamPart_8 ?_
  obtain ⟨q1, hq1, hr⟩ := bnd hr
  refine C_RX0_52 hX (c_X9_at (by omega) hq1) (Nat.le_of_ble_eq_true rfl) dX0_teamPart_9 ?_
  cases hr
  exact V_iret hX hE rfl dX0_teamPart_12
def f_X0_fittingTeams_13 : Nat → Int32 → Int32 → Int32 → Wd → Option (Int32 × Wd)
  | 0, _, _, _, _ => none
  | n + 1, x2, x3, x4, w => if 12 < x4 then
        (some (x3, w))
      else
        (Option.bind (f_X9_has (w.1 5 7) x4 w) fun q1 =>
        if q1.1 = 0 then
          (f_X0_fittingTeams_13 n x2 x3 (x4 + 1) q1.2)
        else
          (Option.bind (f_X0_teamPart x4 0 q1.2) fun q2 =>
          Option.bind (f_X0_teamPart x4 1 q2.2) fun q3 =>
          Option.bind (f_X9_within x2 q2.1 q3.1 q3.2) fun q4 =>
          if q4.1 = 0 then
            (f_X0_fittingTeams_13 n x2 x3 (x4 + 1) q4.2)
          else
            (f_X0_fittingTeams_13 n x2 (x3 ||| (jshl 1 x4)) (x4 + 1) q4.2)))
def f_X0_fittingTeams (p0 : Int32) (w : Wd) : Option (Int32 × Wd) := Option.bind (f_X0_part p0 6 w) fun q1 =>
    f_X0_fittingTeams_13 fu q1.1 0 1 q1.2
set_option maxRecDepth 100000 in
set_option maxHeartbeats 4000000 in
theorem v_X0_fittingTeams_13 {d : Nat} (hd9 : 2 ≤ d) {X : bX} (hX : bOk cX0_fittingTeams 5 RX0 d X) {r : (Int32 × Wd)} (hE : bEnd (some .int) (some (.int r.1)) r.2 X) : ∀ (n : Nat) (x2 : Int32) (x3 : Int32) (x4 : Int32) (w : Wd), f_X0_fittingTeams_13 n x2 x3 x4 w = some r → bV X 13 [some (.ref 5), none, some (.int x2), some (.int x3), some (.int x4)] [] w := by
  obtain ⟨d, rfl⟩ : ∃ e, d = e + 1 := ⟨d - 1, by omega⟩
  intro n
  induction n with
  | zero => intro x2 x3 x4 w hr; exact absurd hr (by simp [f_X0_fittingTeams_13])
  | succ n ih =>
    intro x2 x3 x4 w hr
    rw [f_X0_fittingTeams_13] at hr
    refine V_iload hX dX0_fittingTeams_13 rfl ?_
    refine V_bipush hX dX0_fittingTeams_15 bp_12 ?_
    refine V_icmp_gt (tgt := 66) hX dX0_fittingTeams_17 (by decide) (fun h17 => ?_) (fun h17 => ?_)
    · rw [if_pos h17] at hr
      refine V_iload_n hX dX0_fittingTeams_66 rfl rfl ?_
      cases hr
      exact V_iret hX hE rfl dX0_fittingTeams_67
    · rw [if_neg h17] at hr
      refine V_aload_n hX dX0_fittingTeams_20 rfl rfl ?_
      refine G_RX0_74 hX dX0_fittingTeams_21 ?_
      refine V_iload hX dX0_fittingTeams_24 rfl ?_
      obtain ⟨q1, hq1, hr⟩ := bnd hr
      refine C_RX0_48 hX (c_X9_has (by omega) hq1) (Nat.le_of_ble_eq_true rfl) dX0_fittingTeams_26 ?_
      refine V_if_eq (tgt := 60) hX dX0_fittingTeams_29 (by decide) (fun h29 => ?_) (fun h29 => ?_)
      · rw [if_pos h29] at hr
        refine V_iinc hX dX0_fittingTeams_60 rfl (ii_1 _) (Nat.le_of_ble_eq_true rfl) rfl ?_
        refine V_goto (tgt := 13) hX dX0_fittingTeams_63 (by decide) ?_
        refine V_mask [true, false, true, true, true] ?_
        exact ih _ _ _ _ hr
      · rw [if_neg h29] at hr
        refine V_iload_n hX dX0_fittingTeams_32 rfl rfl ?_
        refine V_aload_n hX dX0_fittingTeams_33 rfl rfl ?_
        refine V_iload hX dX0_fittingTeams_34 rfl ?_
        refine V_iconst hX dX0_fittingTeams_36 ic_0 ?_
        obtain ⟨q2, hq2, hr⟩ := bnd hr
        refine C_RX0_77 hX (c_X0_teamPart (by omega) hq2) (Nat.le_of_ble_eq_true rfl) dX0_fittingTeams_37 ?_
        refine V_aload_n hX dX0_fittingTeams_40 rfl rfl ?_
        refine V_iload hX dX0_fittingTeams_41 rfl ?_
        refine V_iconst hX dX0_fittingTeams_43 ic_1 ?_
        obtain ⟨q3, hq3, hr⟩ := bnd hr
        refine C_RX0_77 hX (c_X0_teamPart (by omega) hq3) (Nat.le_of_ble_eq_true rfl) dX0_fittingTeams_44 ?_
        obtain ⟨q4, hq4, hr⟩ := bnd hr
        refine C_RX0_41 hX (c_X9_within (by omega) hq4) (Nat.le_of_ble_eq_true rfl) dX0_fittingTeams_47 ?_
        refine V_if_eq (tgt := 60) hX dX0_fittingTeams_50 (by decide) (fun h50 => ?_) (fun h50 => ?_)
        · rw [if_pos h50] at hr
          refine V_iinc hX dX0_fittingTeams_60 rfl (ii_1 _) (Nat.le_of_ble_eq_true rfl) rfl ?_
          refine V_goto (tgt := 13) hX dX0_fittingTeams_63 (by decide) ?_
          refine V_mask [true, false, true, true, true] ?_
          exact ih _ _ _ _ hr
        · rw [if_neg h50] at hr
          refine V_iload_n hX dX0_fittingTeams_53 rfl rfl ?_
          refine V_iconst hX dX0_fittingTeams_54 ic_1 ?_
          refine V_iload hX dX0_fittingTeams_55 rfl ?_
          refine V_ishl hX dX0_fittingTeams_57 ?_
          refine V_ior hX dX0_fittingTeams_58 ?_
          refine V_istore_n hX dX0_fittingTeams_59 rfl (Nat.le_of_ble_eq_true rfl) rfl ?_
          refine V_iinc hX dX0_fittingTeams_60 rfl (ii_1 _) (Nat.le_of_ble_eq_true rfl) rfl ?_
          refine V_goto (tgt := 13) hX dX0_fittingTeams_63 (by decide) ?_
          refine V_mask [true, false, true, true, true] ?_
          exact ih _ _ _ _ hr
set_option maxRecDepth 100000 in
set_option maxHeartbeats 4000000 in
theorem c_X0_fittingTeams {d : Nat} (hd9 : 2 ≤ d) {p0 : Int32} {w : Wd} {r : (Int32 × Wd)} (hr : f_X0_fittingTeams p0 w = some r) : Con d yX0_fittingTeams cX0_fittingTeams 5 (some .int) [.ref 5, .int p0] w (some (.int r.1)) r.2 := by
  refine Con_of (by decide) (Nat.le_of_ble_eq_true rfl) (fun X hX hE => ?_)
  have hX : bOk cX0_fittingTeams 5 RX0 d X := hX
  show bV X 0 [some (.ref 5), some (.int p0), none, none, none] [] w
  obtain ⟨d, rfl⟩ : ∃ e, d = e + 1 := ⟨d - 1, by omega⟩
  unfold f_X0_fittingTeams at hr
  refine V_aload_n hX dX0_fittingTeams_0 rfl rfl ?_
  refine V_iload_n hX dX0_fittingTeams_1 rfl rfl ?_
  refine V_bipush hX dX0_fittingTeams_2 bp_6 ?_
  obtain ⟨q1, hq1, hr⟩ := bnd hr
  refine C_RX0_56 hX (c_X0_part (by omega) hq1) (Nat.le_of_ble_eq_true rfl) dX0_fittingTeams_4 ?_
  refine V_istore_n hX dX0_fittingTeams_7 rfl (Nat.le_of_ble_eq_true rfl) rfl ?_
  refine V_iconst hX dX0_fittingTeams_8 ic_0 ?_
  refine V_istore_n hX dX0_fittingTeams_9 rfl (Nat.le_of_ble_eq_true rfl) rfl ?_
  refine V_iconst hX dX0_fittingTeams_10 ic_1 ?_
  refine V_istore hX dX0_fittingTeams_11 (Nat.le_of_ble_eq_true rfl) rfl ?_
  refine V_mask [true, false, true, true, true] ?_
  exact v_X0_fittingTeams_13 hd9 hX hE _ _ _ _ _ hr
def f_X0_rightUnder (p0 : Int32) (w : Wd) : Option (Int32 × Wd) := Option.bind (f_X9_has (w.1 5 0) p0 w) fun q1 =>
    if q1.1 = 0 then
      (some (0, q1.2))
    else
      (Option.bind (f_X9_at 10 p0 q1.2) fun q2 =>
      some ((q2.1 &&& (q2.2.1 5 0)), q2.2))
set_option maxRecDepth 100000 in
set_option maxHeartbeats 4000000 in
theorem c_X0_rightUnder {d : Nat} (hd9 : 1 ≤ d) {p0 : Int32} {w : Wd} {r : (Int32 × Wd)} (hr : f_X0_rightUnder p0 w = some r) : Con d yX0_rightUnder cX0_rightUnder 2 (some .int) [.ref 5, .int p0] w (some (.int r.1)) r.2 := by
  refine Con_of (by decide) (Nat.le_of_ble_eq_true rfl) (fun X hX hE => ?_)
  have hX : bOk cX0_rightUnder 2 RX0 d X := hX
  show bV X 0 [some (.ref 5), some (.int p0)] [] w
  obtain ⟨d, rfl⟩ : ∃ e, d = e + 1 := ⟨d - 1, by omega⟩
  unfold f_X0_rightUnder at hr
  refine V_aload_n hX dX0_rightUnder_0 rfl rfl ?_
  refine G_RX0_45 hX dX0_rightUnder_1 ?_
  refine V_iload_n hX dX0_rightUnder_4 rfl rfl ?_
  obtain ⟨q1, hq1, hr⟩ := bnd hr
  refine C_RX0_48 hX (c_X9_has (by omega) hq1) (Nat.le_of_ble_eq_true rfl) dX0_rightUnder_5 ?_
  refine V_if_eq (tgt := 27) hX dX0_rightUnder_8 (by decide) (fun h8 => ?_) (fun h8 => ?_)
  · rw [if_pos h8] at hr
    refine V_iconst hX dX0_rightUnder_27 ic_0 ?_
    cases hr
    exact V_iret hX hE rfl dX0_rightUnder_28
  · rw [if_neg h8] at hr
    refine V_aload_n hX dX0_rightUnder_11 rfl rfl ?_
    refine G_RX0_24 hX dX0_rightUnder_12 ?_
    refine V_iload_n hX dX0_rightUnder_15 rfl rfl ?_
    obtain ⟨q2, hq2, hr⟩ := bnd hr
    refine C_RX0_52 hX (c_X9_at (by omega) hq2) (Nat.le_of_ble_eq_true rfl) dX0_rightUnder_16 ?_
    refine V_aload_n hX dX0_rightUnder_19 rfl rfl ?_
    refine G_RX0_45 hX dX0_rightUnder_20 ?_
    refine V_iand hX dX0_rightUnder_23 ?_
    refine V_goto (tgt := 28) hX dX0_rightUnder_24 (by decide) ?_
    cases hr
    exact V_iret hX hE rfl dX0_rightUnder_28
def f_X0_begins (p0 : Int32) (p1 : Int32) (w : Wd) : Option (Int32 × Wd) := Option.bind (f_X9_at 7 ((p0 * 4) + p1) w) fun q1 =>
    some (q1.1, q1.2)
set_option maxRecDepth 100000 in
set_option maxHeartbeats 4000000 in
theorem c_X0_begins {d : Nat} (hd9 : 1 ≤ d) {p0 : Int32} {p1 : Int32} {w : Wd} {r : (Int32 × Wd)} (hr : f_X0_begins p0 p1 w = some r) : Con d yX0_begins cX0_begins 3 (some .int) [.ref 5, .int p0, .int p1] w (some (.int r.1)) r.2 := by
  refine Con_of (by decide) (Nat.le_of_ble_eq_true rfl) (fun X hX hE => ?_)
  have hX : bOk cX0_begins 3 RX0 d X := hX
  show bV X 0 [some (.ref 5), some (.int p0), some (.int p1)] [] w
  obtain ⟨d, rfl⟩ : ∃ e, d = e + 1 := ⟨d - 1, by omega⟩
  unfold f_X0_begins at hr
  refine V_aload_n hX dX0_begins_0 rfl rfl ?_
  refine G_RX0_15 hX dX0_begins_1 ?_
  refine V_iload_n hX dX0_begins_4 rfl rfl ?_
  refine V_iconst hX dX0_begins_5 ic_4 ?_
  refine V_imul hX dX0_begins_6 ?_
  refine V_iload_n hX dX0_begins_7 rfl rfl ?_
  refine V_iadd hX dX0_begins_8 ?_
  obtain ⟨q1, hq1, hr⟩ := bnd hr
  refine C_RX0_52 hX (c_X9_at (by omega) hq1) (Nat.le_of_ble_eq_true rfl) dX0_begins_9 ?_
  cases hr
  exact V_iret hX hE rfl dX0_begins_12
def f_X0_ends (p0 : Int32) (p1 : Int32) (w : Wd) : Option (Int32 × Wd) := Option.bind (f_X9_at 7 ((p0 * 4) + p1) w) fun q1 =>
    Option.bind (f_X9_at 7 (((p0 * 4) + 2) + p1) q1.2) fun q2 =>
    some ((q1.1 + q2.1), q2.2)
set_option maxRecDepth 100000 in
set_option maxHeartbeats 4000000 in
theorem c_X0_ends {d : Nat} (hd9 : 1 ≤ d) {p0 : Int32} {p1 : Int32} {w : Wd} {r : (Int32 × Wd)} (hr : f_X0_ends p0 p1 w = some r) : Con d yX0_ends cX0_ends 3 (some .int) [.ref 5, .int p0, .int p1] w (some (.int r.1)) r.2 := by
  refine Con_of (by decide) (Nat.le_of_ble_eq_true rfl) (fun X hX hE => ?_)
  have hX : bOk cX0_ends 3 RX0 d X := hX
  show bV X 0 [some (.ref 5), some (.int p0), some (.int p1)] [] w
  obtain ⟨d, rfl⟩ : ∃ e, d = e + 1 := ⟨d - 1, by omega⟩
  unfold f_X0_ends at hr
  refine V_aload_n hX dX0_ends_0 rfl rfl ?_
  refine G_RX0_15 hX dX0_ends_1 ?_
  refine V_iload_n hX dX0_ends_4 rfl rfl ?_
  refine V_iconst hX dX0_ends_5 ic_4 ?_
  refine V_imul hX dX0_ends_6 ?_
  refine V_iload_n hX dX0_ends_7 rfl rfl ?_
  refine V_iadd hX dX0_ends_8 ?_
  obtain ⟨q1, hq1, hr⟩ := bnd hr
  refine C_RX0_52 hX (c_X9_at (by omega) hq1) (Nat.le_of_ble_eq_true rfl) dX0_ends_9 ?_
  refine V_aload_n hX dX0_ends_12 rfl rfl ?_
  refine G_RX0_15 hX dX0_ends_13 ?_
  refine V_iload_n hX dX0_ends_16 rfl rfl ?_
  refine V_iconst hX dX0_ends_17 ic_4 ?_
  refine V_imul hX dX0_ends_18 ?_
  refine V_iconst hX dX0_ends_19 ic_2 ?_
  refine V_iadd hX dX0_ends_20 ?_
  refine V_iload_n hX dX0_ends_21 rfl rfl ?_
  refine V_iadd hX dX0_ends_22 ?_
  obtain ⟨q2, hq2, hr⟩ := bnd hr
  refine C_RX0_52 hX (c_X9_at (by omega) hq2) (Nat.le_of_ble_eq_true rfl) dX0_ends_23 ?_
  refine V_iadd hX dX0_ends_26 ?_
  cases hr
  exact V_iret hX hE rfl dX0_ends_27
def f_X0_yardsBetween (p0 : Int32) (p1 : Int32) (p2 : Int32) (w : Wd) : Option (Int32 × Wd) := Option.bind (f_X0_begins p0 p2 w) fun q1 =>
    Option.bind (f_X0_begins p1 p2 q1.2) fun q2 =>
    Option.bind (f_X0_ends p0 p2 q2.2) fun q3 =>
    Option.bind (f_X0_ends p1 p2 q3.2) fun q4 =>
    some (((jmax q1.1 q2.1) - (jmin q3.1 q4.1)), q4.2)
set_option maxRecDepth 100000 in
set_option maxHeartbeats 4000000 in
theorem c_X0_yardsBetween {d : Nat} (hd9 : 2 ≤ d) {p0 : Int32} {p1 : Int32} {p2 : Int32} {w : Wd} {r : (Int32 × Wd)} (hr : f_X0_yardsBetween p0 p1 p2 w = some r) : Con d yX0_yardsBetween cX0_yardsBetween 4 (some .int) [.ref 5, .int p0, .int p1, .int p2] w (some (.int r.1)) r.2 := by
  refine Con_of (by decide) (Nat.le_of_ble_eq_true rfl) (fun X hX hE => ?_)
  have hX : bOk cX0_yardsBetween 4 RX0 d X := hX
  show bV X 0 [some (.ref 5), some (.int p0), some (.int p1), some (.int p2)] [] w
  obtain ⟨d, rfl⟩ : ∃ e, d = e + 1 := ⟨d - 1, by omega⟩
  unfold f_X0_yardsBetween at hr
  refine V_aload_n hX dX0_yardsBetween_0 rfl rfl ?_
  refine V_iload_n hX dX0_yardsBetween_1 rfl rfl ?_
  refine V_iload_n hX dX0_yardsBetween_2 rfl rfl ?_
  obtain ⟨q1, hq1, hr⟩ := bnd hr
  refine C_RX0_60 hX (c_X0_begins (by omega) hq1) (Nat.le_of_ble_eq_true rfl) dX0_yardsBetween_3 ?_
  refine V_aload_n hX dX0_yardsBetween_6 rfl rfl ?_
  refine V_iload_n hX dX0_yardsBetween_7 rfl rfl ?_
  refine V_iload_n hX dX0_yardsBetween_8 rfl rfl ?_
  obtain ⟨q2, hq2, hr⟩ := bnd hr
  refine C_RX0_60 hX (c_X0_begins (by omega) hq2) (Nat.le_of_ble_eq_true rfl) dX0_yardsBetween_9 ?_
  refine V_mmax hX mt_RX0_63 (by omega) (Nat.le_of_ble_eq_true rfl) dX0_yardsBetween_12 ?_
  refine V_aload_n hX dX0_yardsBetween_15 rfl rfl ?_
  refine V_iload_n hX dX0_yardsBetween_16 rfl rfl ?_
  refine V_iload_n hX dX0_yardsBetween_17 rfl rfl ?_
  obtain ⟨q3, hq3, hr⟩ := bnd hr
  refine C_RX0_68 hX (c_X0_ends (by omega) hq3) (Nat.le_of_ble_eq_true rfl) dX0_yardsBetween_18 ?_
  refine V_aload_n hX dX0_yardsBetween_21 rfl rfl ?_
  refine V_iload_n hX dX0_yardsBetween_22 rfl rfl ?_
  refine V_iload_n hX dX0_yardsBetween_23 rfl rfl ?_
  obtain ⟨q4, hq4, hr⟩ := bnd hr
  refine C_RX0_68 hX (c_X0_ends (by omega) hq4) (Nat.le_of_ble_eq_true rfl) dX0_yardsBetween_24 ?_
  refine V_mmin hX mt_RX0_71 (by omega) (Nat.le_of_ble_eq_true rfl) dX0_yardsBetween_27 ?_
  refine V_isub hX dX0_yardsBetween_30 ?_
  cases hr
  exact V_iret hX hE rfl dX0_yardsBetween_31
def f_X0_toldBundles (w : Wd) : Option (Int32 × Wd) := some (((w.1 5 0) &&& 255), w)
set_option maxRecDepth 100000 in
set_option maxHeartbeats 4000000 in
theorem c_X0_toldBundles {d : Nat} (hd9 : 0 ≤ d) {w : Wd} {r : (Int32 × Wd)} (hr : f_X0_toldBundles w = some r) : Con d yX0_toldBundles cX0_toldBundles 1 (some .int) [.ref 5] w (some (.int r.1)) r.2 := by
  refine Con_of (by decide) (Nat.le_of_ble_eq_true rfl) (fun X hX hE => ?_)
  have hX : bOk cX0_toldBundles 1 RX0 d X := hX
  show bV X 0 [some (.ref 5)] [] w
  unfold f_X0_toldBundles at hr
  refine V_aload_n hX dX0_toldBundles_0 rfl rfl ?_
  refine G_RX0_45 hX dX0_toldBundles_1 ?_
  refine V_sipush hX dX0_toldBundles_4 sp_255 ?_
  refine V_iand hX dX0_toldBundles_7 ?_
  cases hr
  exact V_iret hX hE rfl dX0_toldBundles_8
