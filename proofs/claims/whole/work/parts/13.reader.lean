def f_X4_sortOf (p0 : Int32) (w : Wd) : Option (Int32 × Wd) := Option.bind (f_X9_within p0 97 122 w) fun q1 =>
    if q1.1 = 0 then
      (Option.bind (f_X9_within p0 48 57 q1.2) fun q2 =>
      if q2.1 = 0 then
        (some (2, q2.2))
      else
        (some (1, q2.2)))
    else
      (some (0, q1.2))
set_option maxRecDepth 100000 in
set_option maxHeartbeats 4000000 in
theorem c_X4_sortOf {d : Nat} (hd9 : 1 ≤ d) {p0 : Int32} {w : Wd} {r : (Int32 × Wd)} (hr : f_X4_sortOf p0 w = some r) : Con d yX4_sortOf cX4_sortOf 1 (some .int) [.int p0] w (some (.int r.1)) r.2 := by
  refine Con_of (by decide) (Nat.le_of_ble_eq_true rfl) (fun X hX hE => ?_)
  have hX : bOk cX4_sortOf 1 RX4 d X := hX
  show bV X 0 [some (.int p0)] [] w
  obtain ⟨d, rfl⟩ : ∃ e, d = e + 1 := ⟨d - 1, by omega⟩
  unfold f_X4_sortOf at hr
  refine V_iload_n hX dX4_sortOf_0 rfl rfl ?_
  refine V_bipush hX dX4_sortOf_1 bp_97 ?_
  refine V_bipush hX dX4_sortOf_3 bp_122 ?_
  obtain ⟨q1, hq1, hr⟩ := bnd hr
  refine C_RX4_73 hX (c_X9_within (by omega) hq1) (Nat.le_of_ble_eq_true rfl) dX4_sortOf_5 ?_
  refine V_if_eq (tgt := 13) hX dX4_sortOf_8 (by decide) (fun h8 => ?_) (fun h8 => ?_)
  · rw [if_pos h8] at hr
    refine V_iload_n hX dX4_sortOf_13 rfl rfl ?_
    refine V_bipush hX dX4_sortOf_14 bp_48 ?_
    refine V_bipush hX dX4_sortOf_16 bp_57 ?_
    obtain ⟨q2, hq2, hr⟩ := bnd hr
    refine C_RX4_73 hX (c_X9_within (by omega) hq2) (Nat.le_of_ble_eq_true rfl) dX4_sortOf_18 ?_
    refine V_if_eq (tgt := 28) hX dX4_sortOf_21 (by decide) (fun h21 => ?_) (fun h21 => ?_)
    · rw [if_pos h21] at hr
      refine V_iconst hX dX4_sortOf_28 ic_2 ?_
      cases hr
      exact V_iret hX hE rfl dX4_sortOf_29
    · rw [if_neg h21] at hr
      refine V_iconst hX dX4_sortOf_24 ic_1 ?_
      refine V_goto (tgt := 29) hX dX4_sortOf_25 (by decide) ?_
      cases hr
      exact V_iret hX hE rfl dX4_sortOf_29
  · rw [if_neg h8] at hr
    refine V_iconst hX dX4_sortOf_11 ic_0 ?_
    cases hr
    exact V_iret hX hE rfl dX4_sortOf_12
def f_X4_takeToken_104 : Nat → Int32 → Wd → Option Wd
  | 0, _, _ => none
  | n + 1, x1, w => if x1 = 2 then
        (some w)
      else
        (if (w.1 1 1) ≤ (w.1 3 4) then
          (some w)
        else
          (Option.bind (f_X9_at 2 (w.1 3 4) w) fun q1 =>
          Option.bind (f_X4_sortOf q1.1 q1.2) fun q2 =>
          if q2.1 = x1 then
            (f_X4_takeToken_104 n x1 (wS q2.2 3 4 ((q2.2.1 3 4) + 1)))
          else
            (some q2.2)))
def f_X4_takeToken_54 (w : Wd) : Option Wd := if ((wS w 3 4 (w.1 3 3)).1 1 1) ≤ ((wS w 3 4 (w.1 3 3)).1 3 3) then
      (some (wS w 3 4 (w.1 3 3)))
    else
      (Option.bind (f_X9_at 2 ((wS w 3 4 (w.1 3 3)).1 3 3) (wS w 3 4 (w.1 3 3))) fun q1 =>
      Option.bind (f_X4_sortOf q1.1 q1.2) fun q2 =>
      f_X4_takeToken_104 fu q2.1 (wS q2.2 3 4 ((q2.2.1 3 3) + 1)))
def f_X4_takeToken_8 : Nat → Wd → Option Wd
  | 0, _ => none
  | n + 1, w => if (w.1 1 1) ≤ (w.1 3 3) then
        (f_X4_takeToken_54 w)
      else
        (Option.bind (f_X9_at 2 (w.1 3 3) w) fun q1 =>
        if q1.1 = 32 then
          (f_X4_takeToken_8 n (wS q1.2 3 3 ((q1.2.1 3 3) + 1)))
        else
          (f_X4_takeToken_54 q1.2))
def f_X4_takeToken (w : Wd) : Option Wd := f_X4_takeToken_8 fu (wS w 3 3 (w.1 3 4))
set_option maxRecDepth 100000 in
set_option maxHeartbeats 4000000 in
theorem v_X4_takeToken_104 {d : Nat} (hd9 : 2 ≤ d) {X : bX} (hX : bOk cX4_takeToken 2 RX4 d X) {r : Wd} (hE : bEnd none none r X) : ∀ (n : Nat) (x1 : Int32) (w : Wd), f_X4_takeToken_104 n x1 w = some r → bV X 104 [some (.ref 3), some (.int x1)] [] w := by
  obtain ⟨d, rfl⟩ : ∃ e, d = e + 1 := ⟨d - 1, by omega⟩
  intro n
  induction n with
  | zero => intro x1 w hr; exact absurd hr (by simp [f_X4_takeToken_104])
  | succ n ih =>
    intro x1 w hr
    rw [f_X4_takeToken_104] at hr
    refine V_iload_n hX dX4_takeToken_104 rfl rfl ?_
    refine V_iconst hX dX4_takeToken_105 ic_2 ?_
    refine V_icmp_eq (tgt := 157) hX dX4_takeToken_106 (by decide) (fun h106 => ?_) (fun h106 => ?_)
    · rw [if_pos h106] at hr
      cases hr
      exact V_vret hX hE dX4_takeToken_157
    · rw [if_neg h106] at hr
      refine V_aload_n hX dX4_takeToken_109 rfl rfl ?_
      refine G_RX4_23 hX dX4_takeToken_110 ?_
      refine V_aload_n hX dX4_takeToken_113 rfl rfl ?_
      refine G_RX4_15 hX dX4_takeToken_114 ?_
      refine G_RX4_36 hX dX4_takeToken_117 ?_
      refine V_icmp_ge (tgt := 157) hX dX4_takeToken_120 (by decide) (fun h120 => ?_) (fun h120 => ?_)
      · rw [if_pos h120] at hr
        cases hr
        exact V_vret hX hE dX4_takeToken_157
      · rw [if_neg h120] at hr
        refine V_aload_n hX dX4_takeToken_123 rfl rfl ?_
        refine G_RX4_15 hX dX4_takeToken_124 ?_
        refine G_RX4_66 hX dX4_takeToken_127 ?_
        refine V_aload_n hX dX4_takeToken_130 rfl rfl ?_
        refine G_RX4_23 hX dX4_takeToken_131 ?_
        obtain ⟨q1, hq1, hr⟩ := bnd hr
        refine C_RX4_47 hX (c_X9_at (by omega) hq1) (Nat.le_of_ble_eq_true rfl) dX4_takeToken_134 ?_
        obtain ⟨q2, hq2, hr⟩ := bnd hr
        refine C_RX4_69 hX (c_X4_sortOf (by omega) hq2) (Nat.le_of_ble_eq_true rfl) dX4_takeToken_137 ?_
        refine V_iload_n hX dX4_takeToken_140 rfl rfl ?_
        refine V_icmp_ne (tgt := 157) hX dX4_takeToken_141 (by decide) (fun h141 => ?_) (fun h141 => ?_)
        · rw [if_neg h141] at hr
          cases hr
          exact V_vret hX hE dX4_takeToken_157
        · rw [if_pos h141] at hr
          refine V_aload_n hX dX4_takeToken_144 rfl rfl ?_
          refine V_dup hX dX4_takeToken_145 rfl ?_
          refine G_RX4_23 hX dX4_takeToken_146 ?_
          refine V_iconst hX dX4_takeToken_149 ic_1 ?_
          refine V_iadd hX dX4_takeToken_150 ?_
          refine P_RX4_23 hX dX4_takeToken_151 ?_
          refine V_goto (tgt := 104) hX dX4_takeToken_154 (by decide) ?_
          refine V_mask [true, true] ?_
          exact ih _ _ hr
set_option maxRecDepth 100000 in
set_option maxHeartbeats 4000000 in
theorem v_X4_takeToken_54 {d : Nat} (hd9 : 2 ≤ d) {X : bX} (hX : bOk cX4_takeToken 2 RX4 d X) {r : Wd} (hE : bEnd none none r X) : ∀ (w : Wd), f_X4_takeToken_54 w = some r → bV X 54 [some (.ref 3), none] [] w := by
  intro w hr
  obtain ⟨d, rfl⟩ : ∃ e, d = e + 1 := ⟨d - 1, by omega⟩
  unfold f_X4_takeToken_54 at hr
  refine V_aload_n hX dX4_takeToken_54 rfl rfl ?_
  refine V_aload_n hX dX4_takeToken_55 rfl rfl ?_
  refine G_RX4_30 hX dX4_takeToken_56 ?_
  refine P_RX4_23 hX dX4_takeToken_59 ?_
  refine V_aload_n hX dX4_takeToken_62 rfl rfl ?_
  refine G_RX4_30 hX dX4_takeToken_63 ?_
  refine V_aload_n hX dX4_takeToken_66 rfl rfl ?_
  refine G_RX4_15 hX dX4_takeToken_67 ?_
  refine G_RX4_36 hX dX4_takeToken_70 ?_
  refine V_icmp_ge (tgt := 157) hX dX4_takeToken_73 (by decide) (fun h73 => ?_) (fun h73 => ?_)
  · rw [if_pos h73] at hr
    cases hr
    exact V_vret hX hE dX4_takeToken_157
  · rw [if_neg h73] at hr
    refine V_aload_n hX dX4_takeToken_76 rfl rfl ?_
    refine G_RX4_15 hX dX4_takeToken_77 ?_
    refine G_RX4_66 hX dX4_takeToken_80 ?_
    refine V_aload_n hX dX4_takeToken_83 rfl rfl ?_
    refine G_RX4_30 hX dX4_takeToken_84 ?_
    obtain ⟨q1, hq1, hr⟩ := bnd hr
    refine C_RX4_47 hX (c_X9_at (by omega) hq1) (Nat.le_of_ble_eq_true rfl) dX4_takeToken_87 ?_
    obtain ⟨q2, hq2, hr⟩ := bnd hr
    refine C_RX4_69 hX (c_X4_sortOf (by omega) hq2) (Nat.le_of_ble_eq_true rfl) dX4_takeToken_90 ?_
    refine V_istore_n hX dX4_takeToken_93 rfl (Nat.le_of_ble_eq_true rfl) rfl ?_
    refine V_aload_n hX dX4_takeToken_94 rfl rfl ?_
    refine V_aload_n hX dX4_takeToken_95 rfl rfl ?_
    refine G_RX4_30 hX dX4_takeToken_96 ?_
    refine V_iconst hX dX4_takeToken_99 ic_1 ?_
    refine V_iadd hX dX4_takeToken_100 ?_
    refine P_RX4_23 hX dX4_takeToken_101 ?_
    refine V_mask [true, true] ?_
    exact v_X4_takeToken_104 hd9 hX hE _ _ _ hr
set_option maxRecDepth 100000 in
set_option maxHeartbeats 4000000 in
theorem v_X4_takeToken_8 {d : Nat} (hd9 : 2 ≤ d) {X : bX} (hX : bOk cX4_takeToken 2 RX4 d X) {r : Wd} (hE : bEnd none none r X) : ∀ (n : Nat) (w : Wd), f_X4_takeToken_8 n w = some r → bV X 8 [some (.ref 3), none] [] w := by
  obtain ⟨d, rfl⟩ : ∃ e, d = e + 1 := ⟨d - 1, by omega⟩
  intro n
  induction n with
  | zero => intro w hr; exact absurd hr (by simp [f_X4_takeToken_8])
  | succ n ih =>
    intro w hr
    rw [f_X4_takeToken_8] at hr
    refine V_aload_n hX dX4_takeToken_8 rfl rfl ?_
    refine G_RX4_30 hX dX4_takeToken_9 ?_
    refine V_aload_n hX dX4_takeToken_12 rfl rfl ?_
    refine G_RX4_15 hX dX4_takeToken_13 ?_
    refine G_RX4_36 hX dX4_takeToken_16 ?_
    refine V_icmp_ge (tgt := 54) hX dX4_takeToken_19 (by decide) (fun h19 => ?_) (fun h19 => ?_)
    · rw [if_pos h19] at hr
      refine V_mask [true, false] ?_
      exact v_X4_takeToken_54 hd9 hX hE _ hr
    · rw [if_neg h19] at hr
      refine V_aload_n hX dX4_takeToken_22 rfl rfl ?_
      refine G_RX4_15 hX dX4_takeToken_23 ?_
      refine G_RX4_66 hX dX4_takeToken_26 ?_
      refine V_aload_n hX dX4_takeToken_29 rfl rfl ?_
      refine G_RX4_30 hX dX4_takeToken_30 ?_
      obtain ⟨q1, hq1, hr⟩ := bnd hr
      refine C_RX4_47 hX (c_X9_at (by omega) hq1) (Nat.le_of_ble_eq_true rfl) dX4_takeToken_33 ?_
      refine V_bipush hX dX4_takeToken_36 bp_32 ?_
      refine V_icmp_ne (tgt := 54) hX dX4_takeToken_38 (by decide) (fun h38 => ?_) (fun h38 => ?_)
      · rw [if_neg h38] at hr
        refine V_mask [true, false] ?_
        exact v_X4_takeToken_54 hd9 hX hE _ hr
      · rw [if_pos h38] at hr
        refine V_aload_n hX dX4_takeToken_41 rfl rfl ?_
        refine V_dup hX dX4_takeToken_42 rfl ?_
        refine G_RX4_30 hX dX4_takeToken_43 ?_
        refine V_iconst hX dX4_takeToken_46 ic_1 ?_
        refine V_iadd hX dX4_takeToken_47 ?_
        refine P_RX4_30 hX dX4_takeToken_48 ?_
        refine V_goto (tgt := 8) hX dX4_takeToken_51 (by decide) ?_
        refine V_mask [true, false] ?_
        exact ih _ hr
set_option maxRecDepth 100000 in
set_option maxHeartbeats 4000000 in
theorem c_X4_takeToken {d : Nat} (hd9 : 2 ≤ d) {w : Wd} {r : Wd} (hr : f_X4_takeToken w = some r) : Con d yX4_takeToken cX4_takeToken 2 none [.ref 3] w none r := by
  refine Con_of (by decide) (Nat.le_of_ble_eq_true rfl) (fun X hX hE => ?_)
  have hX : bOk cX4_takeToken 2 RX4 d X := hX
  show bV X 0 [some (.ref 3), none] [] w
  obtain ⟨d, rfl⟩ : ∃ e, d = e + 1 := ⟨d - 1, by omega⟩
  unfold f_X4_takeToken at hr
  refine V_aload_n hX dX4_takeToken_0 rfl rfl ?_
  refine V_aload_n hX dX4_takeToken_1 rfl rfl ?_
  refine G_RX4_23 hX dX4_takeToken_2 ?_
  refine P_RX4_30 hX dX4_takeToken_5 ?_
  refine V_mask [true, false] ?_
  exact v_X4_takeToken_8 hd9 hX hE _ _ hr
def f_X4_tokenNumber_54 : Nat → Int32 → Int32 → Wd → Option (Int32 × Wd)
  | 0, _, _, _ => none
  | n + 1, x1, x2, w => if (w.1 3 4) ≤ x2 then
        (some (x1, w))
      else
        (Option.bind (f_X9_at 2 x2 w) fun q1 =>
        f_X4_tokenNumber_54 n (((x1 * 10) + q1.1) - 48) (x2 + 1) q1.2)
def f_X4_tokenNumber (w : Wd) : Option (Int32 × Wd) := if (w.1 3 3) = (w.1 3 4) then
      (some ((-1), w))
    else
      (if 4 < ((w.1 3 4) - (w.1 3 3)) then
        (some ((-1), w))
      else
        (Option.bind (f_X9_at 2 (w.1 3 3) w) fun q1 =>
        Option.bind (f_X4_sortOf q1.1 q1.2) fun q2 =>
        if q2.1 = 1 then
          (f_X4_tokenNumber_54 fu 0 (q2.2.1 3 3) q2.2)
        else
          (some ((-1), q2.2))))
set_option maxRecDepth 100000 in
set_option maxHeartbeats 4000000 in
theorem v_X4_tokenNumber_54 {d : Nat} (hd9 : 2 ≤ d) {X : bX} (hX : bOk cX4_tokenNumber 3 RX4 d X) {r : (Int32 × Wd)} (hE : bEnd (some .int) (some (.int r.1)) r.2 X) : ∀ (n : Nat) (x1 : Int32) (x2 : Int32) (w : Wd), f_X4_tokenNumber_54 n x1 x2 w = some r → bV X 54 [some (.ref 3), some (.int x1), some (.int x2)] [] w := by
  obtain ⟨d, rfl⟩ : ∃ e, d = e + 1 := ⟨d - 1, by omega⟩
  intro n
  induction n with
  | zero => intro x1 x2 w hr; exact absurd hr (by simp [f_X4_tokenNumber_54])
  | succ n ih =>
    intro x1 x2 w hr
    rw [f_X4_tokenNumber_54] at hr
    refine V_iload_n hX dX4_tokenNumber_54 rfl rfl ?_
    refine V_aload_n hX dX4_tokenNumber_55 rfl rfl ?_
    refine G_RX4_23 hX dX4_tokenNumber_56 ?_
    refine V_icmp_ge (tgt := 88) hX dX4_tokenNumber_59 (by decide) (fun h59 => ?_) (fun h59 => ?_)
    · rw [if_pos h59] at hr
      refine V_iload_n hX dX4_tokenNumber_88 rfl rfl ?_
      cases hr
      exact V_iret hX hE rfl dX4_tokenNumber_89
    · rw [if_neg h59] at hr
      refine V_iload_n hX dX4_tokenNumber_62 rfl rfl ?_
      refine V_bipush hX dX4_tokenNumber_63 bp_10 ?_
      refine V_imul hX dX4_tokenNumber_65 ?_
      refine V_aload_n hX dX4_tokenNumber_66 rfl rfl ?_
      refine G_RX4_15 hX dX4_tokenNumber_67 ?_
      refine G_RX4_66 hX dX4_tokenNumber_70 ?_
      refine V_iload_n hX dX4_tokenNumber_73 rfl rfl ?_
      obtain ⟨q1, hq1, hr⟩ := bnd hr
      refine C_RX4_47 hX (c_X9_at (by omega) hq1) (Nat.le_of_ble_eq_true rfl) dX4_tokenNumber_74 ?_
      refine V_iadd hX dX4_tokenNumber_77 ?_
      refine V_bipush hX dX4_tokenNumber_78 bp_48 ?_
      refine V_isub hX dX4_tokenNumber_80 ?_
      refine V_istore_n hX dX4_tokenNumber_81 rfl (Nat.le_of_ble_eq_true rfl) rfl ?_
      refine V_iinc hX dX4_tokenNumber_82 rfl (ii_1 _) (Nat.le_of_ble_eq_true rfl) rfl ?_
      refine V_goto (tgt := 54) hX dX4_tokenNumber_85 (by decide) ?_
      refine V_mask [true, true, true] ?_
      exact ih _ _ _ hr
set_option maxRecDepth 100000 in
set_option maxHeartbeats 4000000 in
theorem c_X4_tokenNumber {d : Nat} (hd9 : 2 ≤ d) {w : Wd} {r : (Int32 × Wd)} (hr : f_X4_tokenNumber w = some r) : Con d yX4_tokenNumber cX4_tokenNumber 3 (some .int) [.ref 3] w (some (.int r.1)) r.2 := by
  refine Con_of (by decide) (Nat.le_of_ble_eq_true rfl) (fun X hX hE => ?_)
  have hX : bOk cX4_tokenNumber 3 RX4 d X := hX
  show bV X 0 [some (.ref 3), none, none] [] w
  obtain ⟨d, rfl⟩ : ∃ e, d = e + 1 := ⟨d - 1, by omega⟩
  unfold f_X4_tokenNumber at hr
  refine V_aload_n hX dX4_tokenNumber_0 rfl rfl ?_
  refine G_RX4_30 hX dX4_tokenNumber_1 ?_
  refine V_aload_n hX dX4_tokenNumber_4 rfl rfl ?_
  refine G_RX4_23 hX dX4_tokenNumber_5 ?_
  refine V_icmp_eq (tgt := 45) hX dX4_tokenNumber_8 (by decide) (fun h8 => ?_) (fun h8 => ?_)
  · rw [if_pos h8] at hr
    refine V_iconst hX dX4_tokenNumber_45 ic_m1 ?_
    cases hr
    exact V_iret hX hE rfl dX4_tokenNumber_46
  · rw [if_neg h8] at hr
    refine V_aload_n hX dX4_tokenNumber_11 rfl rfl ?_
    refine G_RX4_23 hX dX4_tokenNumber_12 ?_
    refine V_aload_n hX dX4_tokenNumber_15 rfl rfl ?_
    refine G_RX4_30 hX dX4_tokenNumber_16 ?_
    refine V_isub hX dX4_tokenNumber_19 ?_
    refine V_iconst hX dX4_tokenNumber_20 ic_4 ?_
    refine V_icmp_gt (tgt := 45) hX dX4_tokenNumber_21 (by decide) (fun h21 => ?_) (fun h21 => ?_)
    · rw [if_pos h21] at hr
      refine V_iconst hX dX4_tokenNumber_45 ic_m1 ?_
      cases hr
      exact V_iret hX hE rfl dX4_tokenNumber_46
    · rw [if_neg h21] at hr
      refine V_aload_n hX dX4_tokenNumber_24 rfl rfl ?_
      refine G_RX4_15 hX dX4_tokenNumber_25 ?_
      refine G_RX4_66 hX dX4_tokenNumber_28 ?_
      refine V_aload_n hX dX4_tokenNumber_31 rfl rfl ?_
      refine G_RX4_30 hX dX4_tokenNumber_32 ?_
      obtain ⟨q1, hq1, hr⟩ := bnd hr
      refine C_RX4_47 hX (c_X9_at (by omega) hq1) (Nat.le_of_ble_eq_true rfl) dX4_tokenNumber_35 ?_
      obtain ⟨q2, hq2, hr⟩ := bnd hr
      refine C_RX4_69 hX (c_X4_sortOf (by omega) hq2) (Nat.le_of_ble_eq_true rfl) dX4_tokenNumber_38 ?_
      refine V_iconst hX dX4_tokenNumber_41 ic_1 ?_
      refine V_icmp_eq (tgt := 47) hX dX4_tokenNumber_42 (by decide) (fun h42 => ?_) (fun h42 => ?_)
      · rw [if_pos h42] at hr
        refine V_iconst hX dX4_tokenNumber_47 ic_0 ?_
        refine V_istore_n hX dX4_tokenNumber_48 rfl (Nat.le_of_ble_eq_true rfl) rfl ?_
        refine V_aload_n hX dX4_tokenNumber_49 rfl rfl ?_
        refine G_RX4_30 hX dX4_tokenNumber_50 ?_
        refine V_istore_n hX dX4_tokenNumber_53 rfl (Nat.le_of_ble_eq_true rfl) rfl ?_
        refine V_mask [true, true, true] ?_
        exact v_X4_tokenNumber_54 hd9 hX hE _ _ _ _ hr
      · rw [if_neg h42] at hr
        refine V_iconst hX dX4_tokenNumber_45 ic_m1 ?_
        cases hr
        exact V_iret hX hE rfl dX4_tokenNumber_46
def f_X4_number (p0 : Int32) (p1 : Int32) (w : Wd) : Option (Int32 × Wd) := Option.bind (f_X9_at 4 (((p0 * 11) + 1) + p1) w) fun q1 =>
    some (q1.1, q1.2)
set_option maxRecDepth 100000 in
set_option maxHeartbeats 4000000 in
theorem c_X4_number {d : Nat} (hd9 : 1 ≤ d) {p0 : Int32} {p1 : Int32} {w : Wd} {r : (Int32 × Wd)} (hr : f_X4_number p0 p1 w = some r) : Con d yX4_number cX4_number 3 (some .int) [.ref 3, .int p0, .int p1] w (some (.int r.1)) r.2 := by
  refine Con_of (by decide) (Nat.le_of_ble_eq_true rfl) (fun X hX hE => ?_)
  have hX : bOk cX4_number 3 RX4 d X := hX
  show bV X 0 [some (.ref 3), some (.int p0), some (.int p1)] [] w
  obtain ⟨d, rfl⟩ : ∃ e, d = e + 1 := ⟨d - 1, by omega⟩
  unfold f_X4_number at hr
  refine V_aload_n hX dX4_number_0 rfl rfl ?_
  refine G_RX4_11 hX dX4_number_1 ?_
  refine V_iload_n hX dX4_number_4 rfl rfl ?_
  refine V_bipush hX dX4_number_5 bp_11 ?_
  refine V_imul hX dX4_number_7 ?_
  refine V_iconst hX dX4_number_8 ic_1 ?_
  refine V_iadd hX dX4_number_9 ?_
  refine V_iload_n hX dX4_number_10 rfl rfl ?_
  refine V_iadd hX dX4_number_11 ?_
  obtain ⟨q1, hq1, hr⟩ := bnd hr
  refine C_RX4_47 hX (c_X9_at (by omega) hq1) (Nat.le_of_ble_eq_true rfl) dX4_number_12 ?_
  cases hr
  exact V_iret hX hE rfl dX4_number_15
def f_X4_kindOf (p0 : Int32) (w : Wd) : Option (Int32 × Wd) := Option.bind (f_X9_at 4 (p0 * 11) w) fun q1 =>
    some (q1.1, q1.2)
set_option maxRecDepth 100000 in
set_option maxHeartbeats 4000000 in
theorem c_X4_kindOf {d : Nat} (hd9 : 1 ≤ d) {p0 : Int32} {w : Wd} {r : (Int32 × Wd)} (hr : f_X4_kindOf p0 w = some r) : Con d yX4_kindOf cX4_kindOf 2 (some .int) [.ref 3, .int p0] w (some (.int r.1)) r.2 := by
  refine Con_of (by decide) (Nat.le_of_ble_eq_true rfl) (fun X hX hE => ?_)
  have hX : bOk cX4_kindOf 2 RX4 d X := hX
  show bV X 0 [some (.ref 3), some (.int p0)] [] w
  obtain ⟨d, rfl⟩ : ∃ e, d = e + 1 := ⟨d - 1, by omega⟩
  unfold f_X4_kindOf at hr
  refine V_aload_n hX dX4_kindOf_0 rfl rfl ?_
  refine G_RX4_11 hX dX4_kindOf_1 ?_
  refine V_iload_n hX dX4_kindOf_4 rfl rfl ?_
  refine V_bipush hX dX4_kindOf_5 bp_11 ?_
  refine V_imul hX dX4_kindOf_7 ?_
  obtain ⟨q1, hq1, hr⟩ := bnd hr
  refine C_RX4_47 hX (c_X9_at (by omega) hq1) (Nat.le_of_ble_eq_true rfl) dX4_kindOf_8 ?_
  cases hr
  exact V_iret hX hE rfl dX4_kindOf_11
