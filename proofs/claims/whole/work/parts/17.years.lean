def f_X8_earliestOf (p0 : Int32) (w : Wd) : Option (Int32 × Wd) := Option.bind (f_X9_at 13 p0 w) fun q1 =>
    some (q1.1, q1.2)
set_option maxRecDepth 100000 in
set_option maxHeartbeats 4000000 in
theorem c_X8_earliestOf {d : Nat} (hd9 : 1 ≤ d) {p0 : Int32} {w : Wd} {r : (Int32 × Wd)} (hr : f_X8_earliestOf p0 w = some r) : Con d yX8_earliestOf cX8_earliestOf 2 (some .int) [.ref 12, .int p0] w (some (.int r.1)) r.2 := by
  refine Con_of (by decide) (Nat.le_of_ble_eq_true rfl) (fun X hX hE => ?_)
  have hX : bOk cX8_earliestOf 2 RX8 d X := hX
  show bV X 0 [some (.ref 12), some (.int p0)] [] w
  obtain ⟨d, rfl⟩ : ∃ e, d = e + 1 := ⟨d - 1, by omega⟩
  unfold f_X8_earliestOf at hr
  refine V_aload_n hX dX8_earliestOf_0 rfl rfl ?_
  refine G_RX8_9 hX dX8_earliestOf_1 ?_
  refine V_iload_n hX dX8_earliestOf_4 rfl rfl ?_
  obtain ⟨q1, hq1, hr⟩ := bnd hr
  refine C_RX8_28 hX (c_X9_at (by omega) hq1) (Nat.le_of_ble_eq_true rfl) dX8_earliestOf_5 ?_
  cases hr
  exact V_iret hX hE rfl dX8_earliestOf_8
def f_X8_latestOf (p0 : Int32) (w : Wd) : Option (Int32 × Wd) := Option.bind (f_X9_at 14 p0 w) fun q1 =>
    some (q1.1, q1.2)
set_option maxRecDepth 100000 in
set_option maxHeartbeats 4000000 in
theorem c_X8_latestOf {d : Nat} (hd9 : 1 ≤ d) {p0 : Int32} {w : Wd} {r : (Int32 × Wd)} (hr : f_X8_latestOf p0 w = some r) : Con d yX8_latestOf cX8_latestOf 2 (some .int) [.ref 12, .int p0] w (some (.int r.1)) r.2 := by
  refine Con_of (by decide) (Nat.le_of_ble_eq_true rfl) (fun X hX hE => ?_)
  have hX : bOk cX8_latestOf 2 RX8 d X := hX
  show bV X 0 [some (.ref 12), some (.int p0)] [] w
  obtain ⟨d, rfl⟩ : ∃ e, d = e + 1 := ⟨d - 1, by omega⟩
  unfold f_X8_latestOf at hr
  refine V_aload_n hX dX8_latestOf_0 rfl rfl ?_
  refine G_RX8_15 hX dX8_latestOf_1 ?_
  refine V_iload_n hX dX8_latestOf_4 rfl rfl ?_
  obtain ⟨q1, hq1, hr⟩ := bnd hr
  refine C_RX8_28 hX (c_X9_at (by omega) hq1) (Nat.le_of_ble_eq_true rfl) dX8_latestOf_5 ?_
  cases hr
  exact V_iret hX hE rfl dX8_latestOf_8
def f_X8_closeOver_40 (k32 : Int32 → Wd → Option Wd) : Nat → Int32 → Int32 → Wd → Option Wd
  | 0, _, _, _ => none
  | n + 1, x1, x2, w => if 14 ≤ x2 then
        (k32 (x1 + 1) w)
      else
        (Option.bind (f_X9_at 15 x2 w) fun q1 =>
        Option.bind (f_X9_has q1.1 x1 q1.2) fun q2 =>
        if q2.1 = 0 then
          (f_X8_closeOver_40 k32 n x1 (x2 + 1) q2.2)
        else
          (Option.bind (f_X9_at 15 x2 q2.2) fun q3 =>
          Option.bind (f_X9_at 15 x1 q3.2) fun q4 =>
          Option.bind (f_X9_put 15 x2 (q3.1 ||| q4.1) q4.2) fun q5 =>
          f_X8_closeOver_40 k32 n x1 (x2 + 1) q5))
def f_X8_closeOver_32 : Nat → Int32 → Wd → Option Wd
  | 0, _, _ => none
  | n + 1, x1, w => if 14 ≤ x1 then
        (some w)
      else
        (f_X8_closeOver_40 (f_X8_closeOver_32 n) fu x1 0 w)
def f_X8_closeOver_2 : Nat → Int32 → Wd → Option Wd
  | 0, _, _ => none
  | n + 1, x1, w => if 14 ≤ x1 then
        (f_X8_closeOver_32 fu 0 w)
      else
        (Option.bind (f_X0_rightUnder x1 w) fun q1 =>
        Option.bind (f_X9_put 15 x1 q1.1 q1.2) fun q2 =>
        f_X8_closeOver_2 n (x1 + 1) q2)
def f_X8_closeOver (w : Wd) : Option Wd := f_X8_closeOver_2 fu 0 w
set_option maxRecDepth 100000 in
set_option maxHeartbeats 4000000 in
theorem v_X8_closeOver_40 {d : Nat} (hd9 : 2 ≤ d) {X : bX} (hX : bOk cX8_closeOver 3 RX8 d X) {r : Wd} (hE : bEnd none none r X) {k32 : Int32 → Wd → Option Wd} (hk32 : ∀ (x1 : Int32) (w : Wd), k32 x1 w = some r → bV X 32 [some (.ref 12), some (.int x1), none] [] w) : ∀ (n : Nat) (x1 : Int32) (x2 : Int32) (w : Wd), f_X8_closeOver_40 k32 n x1 x2 w = some r → bV X 40 [some (.ref 12), some (.int x1), some (.int x2)] [] w := by
  obtain ⟨d, rfl⟩ : ∃ e, d = e + 1 := ⟨d - 1, by omega⟩
  intro n
  induction n with
  | zero => intro x1 x2 w hr; exact absurd hr (by simp [f_X8_closeOver_40])
  | succ n ih =>
    intro x1 x2 w hr
    rw [f_X8_closeOver_40] at hr
    refine V_iload_n hX dX8_closeOver_40 rfl rfl ?_
    refine V_bipush hX dX8_closeOver_41 bp_14 ?_
    refine V_icmp_ge (tgt := 92) hX dX8_closeOver_43 (by decide) (fun h43 => ?_) (fun h43 => ?_)
    · rw [if_pos h43] at hr
      refine V_iinc hX dX8_closeOver_92 rfl (ii_1 _) (Nat.le_of_ble_eq_true rfl) rfl ?_
      refine V_goto (tgt := 32) hX dX8_closeOver_95 (by decide) ?_
      refine V_mask [true, true, false] ?_
      exact hk32 _ _ hr
    · rw [if_neg h43] at hr
      refine V_aload_n hX dX8_closeOver_46 rfl rfl ?_
      refine G_RX8_18 hX dX8_closeOver_47 ?_
      refine V_iload_n hX dX8_closeOver_50 rfl rfl ?_
      obtain ⟨q1, hq1, hr⟩ := bnd hr
      refine C_RX8_28 hX (c_X9_at (by omega) hq1) (Nat.le_of_ble_eq_true rfl) dX8_closeOver_51 ?_
      refine V_iload_n hX dX8_closeOver_54 rfl rfl ?_
      obtain ⟨q2, hq2, hr⟩ := bnd hr
      refine C_RX8_72 hX (c_X9_has (by omega) hq2) (Nat.le_of_ble_eq_true rfl) dX8_closeOver_55 ?_
      refine V_if_eq (tgt := 86) hX dX8_closeOver_58 (by decide) (fun h58 => ?_) (fun h58 => ?_)
      · rw [if_pos h58] at hr
        refine V_iinc hX dX8_closeOver_86 rfl (ii_1 _) (Nat.le_of_ble_eq_true rfl) rfl ?_
        refine V_goto (tgt := 40) hX dX8_closeOver_89 (by decide) ?_
        refine V_mask [true, true, true] ?_
        exact ih _ _ _ hr
      · rw [if_neg h58] at hr
        refine V_aload_n hX dX8_closeOver_61 rfl rfl ?_
        refine G_RX8_18 hX dX8_closeOver_62 ?_
        refine V_iload_n hX dX8_closeOver_65 rfl rfl ?_
        refine V_aload_n hX dX8_closeOver_66 rfl rfl ?_
        refine G_RX8_18 hX dX8_closeOver_67 ?_
        refine V_iload_n hX dX8_closeOver_70 rfl rfl ?_
        obtain ⟨q3, hq3, hr⟩ := bnd hr
        refine C_RX8_28 hX (c_X9_at (by omega) hq3) (Nat.le_of_ble_eq_true rfl) dX8_closeOver_71 ?_
        refine V_aload_n hX dX8_closeOver_74 rfl rfl ?_
        refine G_RX8_18 hX dX8_closeOver_75 ?_
        refine V_iload_n hX dX8_closeOver_78 rfl rfl ?_
        obtain ⟨q4, hq4, hr⟩ := bnd hr
        refine C_RX8_28 hX (c_X9_at (by omega) hq4) (Nat.le_of_ble_eq_true rfl) dX8_closeOver_79 ?_
        refine V_ior hX dX8_closeOver_82 ?_
        obtain ⟨q5, hq5, hr⟩ := bnd hr
        refine C_RX8_88 hX (c_X9_put (by omega) hq5) (Nat.le_of_ble_eq_true rfl) dX8_closeOver_83 ?_
        refine V_iinc hX dX8_closeOver_86 rfl (ii_1 _) (Nat.le_of_ble_eq_true rfl) rfl ?_
        refine V_goto (tgt := 40) hX dX8_closeOver_89 (by decide) ?_
        refine V_mask [true, true, true] ?_
        exact ih _ _ _ hr
set_option maxRecDepth 100000 in
set_option maxHeartbeats 4000000 in
theorem v_X8_closeOver_32 {d : Nat} (hd9 : 2 ≤ d) {X : bX} (hX : bOk cX8_closeOver 3 RX8 d X) {r : Wd} (hE : bEnd none none r X) : ∀ (n : Nat) (x1 : Int32) (w : Wd), f_X8_closeOver_32 n x1 w = some r → bV X 32 [some (.ref 12), some (.int x1), none] [] w := by
  obtain ⟨d, rfl⟩ : ∃ e, d = e + 1 := ⟨d - 1, by omega⟩
  intro n
  induction n with
  | zero => intro x1 w hr; exact absurd hr (by simp [f_X8_closeOver_32])
  | succ n ih =>
    intro x1 w hr
    rw [f_X8_closeOver_32] at hr
    refine V_iload_n hX dX8_closeOver_32 rfl rfl ?_
    refine V_bipush hX dX8_closeOver_33 bp_14 ?_
    refine V_icmp_ge (tgt := 98) hX dX8_closeOver_35 (by decide) (fun h35 => ?_) (fun h35 => ?_)
    · rw [if_pos h35] at hr
      cases hr
      exact V_vret hX hE dX8_closeOver_98
    · rw [if_neg h35] at hr
      refine V_iconst hX dX8_closeOver_38 ic_0 ?_
      refine V_istore_n hX dX8_closeOver_39 rfl (Nat.le_of_ble_eq_true rfl) rfl ?_
      refine V_mask [true, true, true] ?_
      exact v_X8_closeOver_40 hd9 hX hE ih _ _ _ _ hr
set_option maxRecDepth 100000 in
set_option maxHeartbeats 4000000 in
theorem v_X8_closeOver_2 {d : Nat} (hd9 : 2 ≤ d) {X : bX} (hX : bOk cX8_closeOver 3 RX8 d X) {r : Wd} (hE : bEnd none none r X) : ∀ (n : Nat) (x1 : Int32) (w : Wd), f_X8_closeOver_2 n x1 w = some r → bV X 2 [some (.ref 12), some (.int x1), none] [] w := by
  obtain ⟨d, rfl⟩ : ∃ e, d = e + 1 := ⟨d - 1, by omega⟩
  intro n
  induction n with
  | zero => intro x1 w hr; exact absurd hr (by simp [f_X8_closeOver_2])
  | succ n ih =>
    intro x1 w hr
    rw [f_X8_closeOver_2] at hr
    refine V_iload_n hX dX8_closeOver_2 rfl rfl ?_
    refine V_bipush hX dX8_closeOver_3 bp_14 ?_
    refine V_icmp_ge (tgt := 30) hX dX8_closeOver_5 (by decide) (fun h5 => ?_) (fun h5 => ?_)
    · rw [if_pos h5] at hr
      refine V_iconst hX dX8_closeOver_30 ic_0 ?_
      refine V_istore_n hX dX8_closeOver_31 rfl (Nat.le_of_ble_eq_true rfl) rfl ?_
      refine V_mask [true, true, false] ?_
      exact v_X8_closeOver_32 hd9 hX hE _ _ _ hr
    · rw [if_neg h5] at hr
      refine V_aload_n hX dX8_closeOver_8 rfl rfl ?_
      refine G_RX8_18 hX dX8_closeOver_9 ?_
      refine V_iload_n hX dX8_closeOver_12 rfl rfl ?_
      refine V_aload_n hX dX8_closeOver_13 rfl rfl ?_
      refine G_RX8_24 hX dX8_closeOver_14 ?_
      refine V_iload_n hX dX8_closeOver_17 rfl rfl ?_
      obtain ⟨q1, hq1, hr⟩ := bnd hr
      refine C_RX8_40 hX (c_X0_rightUnder (by omega) hq1) (Nat.le_of_ble_eq_true rfl) dX8_closeOver_18 ?_
      obtain ⟨q2, hq2, hr⟩ := bnd hr
      refine C_RX8_88 hX (c_X9_put (by omega) hq2) (Nat.le_of_ble_eq_true rfl) dX8_closeOver_21 ?_
      refine V_iinc hX dX8_closeOver_24 rfl (ii_1 _) (Nat.le_of_ble_eq_true rfl) rfl ?_
      refine V_goto (tgt := 2) hX dX8_closeOver_27 (by decide) ?_
      refine V_mask [true, true, false] ?_
      exact ih _ _ hr
set_option maxRecDepth 100000 in
set_option maxHeartbeats 4000000 in
theorem c_X8_closeOver {d : Nat} (hd9 : 2 ≤ d) {w : Wd} {r : Wd} (hr : f_X8_closeOver w = some r) : Con d yX8_closeOver cX8_closeOver 3 none [.ref 12] w none r := by
  refine Con_of (by decide) (Nat.le_of_ble_eq_true rfl) (fun X hX hE => ?_)
  have hX : bOk cX8_closeOver 3 RX8 d X := hX
  show bV X 0 [some (.ref 12), none, none] [] w
  obtain ⟨d, rfl⟩ : ∃ e, d = e + 1 := ⟨d - 1, by omega⟩
  unfold f_X8_closeOver at hr
  refine V_iconst hX dX8_closeOver_0 ic_0 ?_
  refine V_istore_n hX dX8_closeOver_1 rfl (Nat.le_of_ble_eq_true rfl) rfl ?_
  refine V_mask [true, true, false] ?_
  exact v_X8_closeOver_2 hd9 hX hE _ _ _ hr
def f_X8_ringed_8 : Nat → Int32 → Int32 → Wd → Option (Int32 × Wd)
  | 0, _, _, _ => none
  | n + 1, x1, x2, w => if 14 ≤ x2 then
        (some (x1, w))
      else
        (Option.bind (f_X9_at 15 x2 w) fun q1 =>
        Option.bind (f_X9_has q1.1 x2 q1.2) fun q2 =>
        if q2.1 = 0 then
          (f_X8_ringed_8 n x1 (x2 + 1) q2.2)
        else
          (f_X8_ringed_8 n (x1 ||| (jshl 1 x2)) (x2 + 1) q2.2))
def f_X8_ringed (w : Wd) : Option (Int32 × Wd) := Option.bind (f_X8_closeOver w) fun q1 =>
    f_X8_ringed_8 fu 0 0 q1
set_option maxRecDepth 100000 in
set_option maxHeartbeats 4000000 in
theorem v_X8_ringed_8 {d : Nat} (hd9 : 3 ≤ d) {X : bX} (hX : bOk cX8_ringed 3 RX8 d X) {r : (Int32 × Wd)} (hE : bEnd (some .int) (some (.int r.1)) r.2 X) : ∀ (n : Nat) (x1 : Int32) (x2 : Int32) (w : Wd), f_X8_ringed_8 n x1 x2 w = some r → bV X 8 [some (.ref 12), some (.int x1), some (.int x2)] [] w := by
  obtain ⟨d, rfl⟩ : ∃ e, d = e + 1 := ⟨d - 1, by omega⟩
  intro n
  induction n with
  | zero => intro x1 x2 w hr; exact absurd hr (by simp [f_X8_ringed_8])
  | succ n ih =>
    intro x1 x2 w hr
    rw [f_X8_ringed_8] at hr
    refine V_iload_n hX dX8_ringed_8 rfl rfl ?_
    refine V_bipush hX dX8_ringed_9 bp_14 ?_
    refine V_icmp_ge (tgt := 41) hX dX8_ringed_11 (by decide) (fun h11 => ?_) (fun h11 => ?_)
    · rw [if_pos h11] at hr
      refine V_iload_n hX dX8_ringed_41 rfl rfl ?_
      cases hr
      exact V_iret hX hE rfl dX8_ringed_42
    · rw [if_neg h11] at hr
      refine V_aload_n hX dX8_ringed_14 rfl rfl ?_
      refine G_RX8_18 hX dX8_ringed_15 ?_
      refine V_iload_n hX dX8_ringed_18 rfl rfl ?_
      obtain ⟨q1, hq1, hr⟩ := bnd hr
      refine C_RX8_28 hX (c_X9_at (by omega) hq1) (Nat.le_of_ble_eq_true rfl) dX8_ringed_19 ?_
      refine V_iload_n hX dX8_ringed_22 rfl rfl ?_
      obtain ⟨q2, hq2, hr⟩ := bnd hr
      refine C_RX8_72 hX (c_X9_has (by omega) hq2) (Nat.le_of_ble_eq_true rfl) dX8_ringed_23 ?_
      refine V_if_eq (tgt := 35) hX dX8_ringed_26 (by decide) (fun h26 => ?_) (fun h26 => ?_)
      · rw [if_pos h26] at hr
        refine V_iinc hX dX8_ringed_35 rfl (ii_1 _) (Nat.le_of_ble_eq_true rfl) rfl ?_
        refine V_goto (tgt := 8) hX dX8_ringed_38 (by decide) ?_
        refine V_mask [true, true, true] ?_
        exact ih _ _ _ hr
      · rw [if_neg h26] at hr
        refine V_iload_n hX dX8_ringed_29 rfl rfl ?_
        refine V_iconst hX dX8_ringed_30 ic_1 ?_
        refine V_iload_n hX dX8_ringed_31 rfl rfl ?_
        refine V_ishl hX dX8_ringed_32 ?_
        refine V_ior hX dX8_ringed_33 ?_
        refine V_istore_n hX dX8_ringed_34 rfl (Nat.le_of_ble_eq_true rfl) rfl ?_
        refine V_iinc hX dX8_ringed_35 rfl (ii_1 _) (Nat.le_of_ble_eq_true rfl) rfl ?_
        refine V_goto (tgt := 8) hX dX8_ringed_38 (by decide) ?_
        refine V_mask [true, true, true] ?_
        exact ih _ _ _ hr
set_option maxRecDepth 100000 in
set_option maxHeartbeats 4000000 in
theorem c_X8_ringed {d : Nat} (hd9 : 3 ≤ d) {w : Wd} {r : (Int32 × Wd)} (hr : f_X8_ringed w = some r) : Con d yX8_ringed cX8_ringed 3 (some .int) [.ref 12] w (some (.int r.1)) r.2 := by
  refine Con_of (by decide) (Nat.le_of_ble_eq_true rfl) (fun X hX hE => ?_)
  have hX : bOk cX8_ringed 3 RX8 d X := hX
  show bV X 0 [some (.ref 12), none, none] [] w
  obtain ⟨d, rfl⟩ : ∃ e, d = e + 1 := ⟨d - 1, by omega⟩
  unfold f_X8_ringed at hr
  refine V_aload_n hX dX8_ringed_0 rfl rfl ?_
  obtain ⟨q1, hq1, hr⟩ := bnd hr
  refine C_RX8_92 hX (c_X8_closeOver (by omega) hq1) (Nat.le_of_ble_eq_true rfl) dX8_ringed_1 ?_
  refine V_iconst hX dX8_ringed_4 ic_0 ?_
  refine V_istore_n hX dX8_ringed_5 rfl (Nat.le_of_ble_eq_true rfl) rfl ?_
  refine V_iconst hX dX8_ringed_6 ic_0 ?_
  refine V_istore_n hX dX8_ringed_7 rfl (Nat.le_of_ble_eq_true rfl) rfl ?_
  refine V_mask [true, true, true] ?_
  exact v_X8_ringed_8 hd9 hX hE _ _ _ _ hr
def f_X8_takeToldYears_136 (x1 : Int32) (x2 : Int32) (x3 : Int32) (w : Wd) : Option Wd := Option.bind (f_X9_put 13 x1 x2 w) fun q1 =>
    Option.bind (f_X9_put 14 x1 x3 q1) fun q2 =>
    some q2
def f_X8_takeToldYears_65 : Nat → Int32 → Int32 → Int32 → Int32 → Int32 → Int32 → Int32 → Wd → Option Wd
  | 0, _, _, _, _, _, _, _, _ => none
  | n + 1, x1, x2, x3, x4, x5, x6, x7, w => if 12 < x7 then
        (f_X8_takeToldYears_136 x1 (jmax x2 x5) (jmin x3 x6) w)
      else
        (Option.bind (f_X9_has x4 x7 w) fun q1 =>
        if q1.1 = 0 then
          (f_X8_takeToldYears_65 n x1 x2 x3 x4 x5 x6 (x7 + 1) q1.2)
        else
          (Option.bind (f_X0_teamPart x7 2 q1.2) fun q2 =>
          Option.bind (f_X0_teamPart x7 3 q2.2) fun q3 =>
          f_X8_takeToldYears_65 n x1 x2 x3 x4 (jmin x5 q2.1) (jmax x6 q3.1) (x7 + 1) q3.2))
def f_X8_takeToldYears_47 (s0 : Int32) (x1 : Int32) (x2 : Int32) (x3 : Int32) (w : Wd) : Option Wd := if s0 = 0 then
      (f_X8_takeToldYears_136 x1 x2 x3 w)
    else
      (f_X8_takeToldYears_65 fu x1 x2 x3 s0 2000 0 1 w)
def f_X8_takeToldYears (p0 : Int32) (w : Wd) : Option Wd := Option.bind (f_X9_at 8 p0 w) fun q1 =>
    Option.bind (f_X9_at 9 p0 q1.2) fun q2 =>
    Option.bind (f_X0_isBundle p0 q2.2) fun q3 =>
    if q3.1 = 0 then
      (f_X8_takeToldYears_47 0 p0 q1.1 q2.1 q3.2)
    else
      (Option.bind (f_X0_fittingTeams p0 q3.2) fun q4 =>
      f_X8_takeToldYears_47 q4.1 p0 q1.1 q2.1 q4.2)
set_option maxRecDepth 100000 in
set_option maxHeartbeats 4000000 in
theorem v_X8_takeToldYears_136 {d : Nat} (hd9 : 3 ≤ d) {X : bX} (hX : bOk cX8_takeToldYears 8 RX8 d X) {r : Wd} (hE : bEnd none none r X) : ∀ (x1 : Int32) (x2 : Int32) (x3 : Int32) (w : Wd), f_X8_takeToldYears_136 x1 x2 x3 w = some r → bV X 136 [some (.ref 12), some (.int x1), some (.int x2), some (.int x3), none, none, none, none] [] w := by
  intro x1 x2 x3 w hr
  obtain ⟨d, rfl⟩ : ∃ e, d = e + 1 := ⟨d - 1, by omega⟩
  unfold f_X8_takeToldYears_136 at hr
  refine V_aload_n hX dX8_takeToldYears_136 rfl rfl ?_
  refine G_RX8_9 hX dX8_takeToldYears_137 ?_
  refine V_iload_n hX dX8_takeToldYears_140 rfl rfl ?_
  refine V_iload_n hX dX8_takeToldYears_141 rfl rfl ?_
  obtain ⟨q1, hq1, hr⟩ := bnd hr
  refine C_RX8_88 hX (c_X9_put (by omega) hq1) (Nat.le_of_ble_eq_true rfl) dX8_takeToldYears_142 ?_
  refine V_aload_n hX dX8_takeToldYears_145 rfl rfl ?_
  refine G_RX8_15 hX dX8_takeToldYears_146 ?_
  refine V_iload_n hX dX8_takeToldYears_149 rfl rfl ?_
  refine V_iload_n hX dX8_takeToldYears_150 rfl rfl ?_
  obtain ⟨q2, hq2, hr⟩ := bnd hr
  refine C_RX8_88 hX (c_X9_put (by omega) hq2) (Nat.le_of_ble_eq_true rfl) dX8_takeToldYears_151 ?_
  cases hr
  exact V_vret hX hE dX8_takeToldYears_154
set_option maxRecDepth 100000 in
set_option maxHeartbeats 4000000 in
theorem v_X8_takeToldYears_65 {d : Nat} (hd9 : 3 ≤ d) {X : bX} (hX : bOk cX8_takeToldYears 8 RX8 d X) {r : Wd} (hE : bEnd none none r X) : ∀ (n : Nat) (x1 : Int32) (x2 : Int32) (x3 : Int32) (x4 : Int32) (x5 : Int32) (x6 : Int32) (x7 : Int32) (w : Wd), f_X8_takeToldYears_65 n x1 x2 x3 x4 x5 x6 x7 w = some r → bV X 65 [some (.ref 12), some (.int x1), some (.int x2), some (.int x3), some (.int x4), some (.int x5), some (.int x6), some (.int x7)] [] w := by
  obtain ⟨d, rfl⟩ : ∃ e, d = e + 1 := ⟨d - 1, by omega⟩
  intro n
  induction n with
  | zero => intro x1 x2 x3 x4 x5 x6 x7 w hr; exact absurd hr (by simp [f_X8_takeToldYears_65])
  | succ n ih =>
    intro x1 x2 x3 x4 x5 x6 x7 w hr
    rw [f_X8_takeToldYears_65] at hr
    refine V_iload hX dX8_takeToldYears_65 rfl ?_
    refine V_bipush hX dX8_takeToldYears_67 bp_12 ?_
    refine V_icmp_gt (tgt := 122) hX dX8_takeToldYears_69 (by decide) (fun h69 => ?_) (fun h69 => ?_)
    · rw [if_pos h69] at hr
      refine V_iload_n hX dX8_takeToldYears_122 rfl rfl ?_
      refine V_iload hX dX8_takeToldYears_123 rfl ?_
      refine V_mmax hX mt_RX8_85 (by omega) (Nat.le_of_ble_eq_true rfl) dX8_takeToldYears_125 ?_
      refine V_istore_n hX dX8_takeToldYears_128 rfl (Nat.le_of_ble_eq_true rfl) rfl ?_
      refine V_iload_n hX dX8_takeToldYears_129 rfl rfl ?_
      refine V_iload hX dX8_takeToldYears_130 rfl ?_
      refine V_mmin hX mt_RX8_80 (by omega) (Nat.le_of_ble_eq_true rfl) dX8_takeToldYears_132 ?_
      refine V_istore_n hX dX8_takeToldYears_135 rfl (Nat.le_of_ble_eq_true rfl) rfl ?_
      refine V_mask [true, true, true, true, false, false, false, false] ?_
      exact v_X8_takeToldYears_136 hd9 hX hE _ _ _ _ hr
    · rw [if_neg h69] at hr
      refine V_iload hX dX8_takeToldYears_72 rfl ?_
      refine V_iload hX dX8_takeToldYears_74 rfl ?_
      obtain ⟨q1, hq1, hr⟩ := bnd hr
      refine C_RX8_72 hX (c_X9_has (by omega) hq1) (Nat.le_of_ble_eq_true rfl) dX8_takeToldYears_76 ?_
      refine V_if_eq (tgt := 116) hX dX8_takeToldYears_79 (by decide) (fun h79 => ?_) (fun h79 => ?_)
      · rw [if_pos h79] at hr
        refine V_iinc hX dX8_takeToldYears_116 rfl (ii_1 _) (Nat.le_of_ble_eq_true rfl) rfl ?_
        refine V_goto (tgt := 65) hX dX8_takeToldYears_119 (by decide) ?_
        refine V_mask [true, true, true, true, true, true, true, true] ?_
        exact ih _ _ _ _ _ _ _ _ hr
      · rw [if_neg h79] at hr
        refine V_iload hX dX8_takeToldYears_82 rfl ?_
        refine V_aload_n hX dX8_takeToldYears_84 rfl rfl ?_
        refine G_RX8_24 hX dX8_takeToldYears_85 ?_
        refine V_iload hX dX8_takeToldYears_88 rfl ?_
        refine V_iconst hX dX8_takeToldYears_90 ic_2 ?_
        obtain ⟨q2, hq2, hr⟩ := bnd hr
        refine C_RX8_76 hX (c_X0_teamPart (by omega) hq2) (Nat.le_of_ble_eq_true rfl) dX8_takeToldYears_91 ?_
        refine V_mmin hX mt_RX8_80 (by omega) (Nat.le_of_ble_eq_true rfl) dX8_takeToldYears_94 ?_
        refine V_istore hX dX8_takeToldYears_97 (Nat.le_of_ble_eq_true rfl) rfl ?_
        refine V_iload hX dX8_takeToldYears_99 rfl ?_
        refine V_aload_n hX dX8_takeToldYears_101 rfl rfl ?_
        refine G_RX8_24 hX dX8_takeToldYears_102 ?_
        refine V_iload hX dX8_takeToldYears_105 rfl ?_
        refine V_iconst hX dX8_takeToldYears_107 ic_3 ?_
        obtain ⟨q3, hq3, hr⟩ := bnd hr
        refine C_RX8_76 hX (c_X0_teamPart (by omega) hq3) (Nat.le_of_ble_eq_true rfl) dX8_takeToldYears_108 ?_
        refine V_mmax hX mt_RX8_85 (by omega) (Nat.le_of_ble_eq_true rfl) dX8_takeToldYears_111 ?_
        refine V_istore hX dX8_takeToldYears_114 (Nat.le_of_ble_eq_true rfl) rfl ?_
        refine V_iinc hX dX8_takeToldYears_116 rfl (ii_1 _) (Nat.le_of_ble_eq_true rfl) rfl ?_
        refine V_goto (tgt := 65) hX dX8_takeToldYears_119 (by decide) ?_
        refine V_mask [true, true, true, true, true, true, true, true] ?_
        exact ih _ _ _ _ _ _ _ _ hr
set_option maxRecDepth 100000 in
set_option maxHeartbeats 4000000 in
theorem v_X8_takeToldYears_47 {d : Nat} (hd9 : 3 ≤ d) {X : bX} (hX : bOk cX8_takeToldYears 8 RX8 d X) {r : Wd} (hE : bEnd none none r X) : ∀ (s0 : Int32) (x1 : Int32) (x2 : Int32) (x3 : Int32) (w : Wd), f_X8_takeToldYears_47 s0 x1 x2 x3 w = some r → bV X 47 [some (.ref 12), some (.int x1), some (.int x2), some (.int x3), none, none, none, none] [.int s0] w := by
  intro s0 x1 x2 x3 w hr
  obtain ⟨d, rfl⟩ : ∃ e, d = e + 1 := ⟨d - 1, by omega⟩
  unfold f_X8_takeToldYears_47 at hr
  refine V_istore hX dX8_takeToldYears_47 (Nat.le_of_ble_eq_true rfl) rfl ?_
  refine V_iload hX dX8_takeToldYears_49 rfl ?_
  refine V_if_eq (tgt := 136) hX dX8_takeToldYears_51 (by decide) (fun h51 => ?_) (fun h51 => ?_)
  · rw [if_pos h51] at hr
    refine V_mask [true, true, true, true, false, false, false, false] ?_
    exact v_X8_takeToldYears_136 hd9 hX hE _ _ _ _ hr
  · rw [if_neg h51] at hr
    refine V_sipush hX dX8_takeToldYears_54 sp_2000 ?_
    refine V_istore hX dX8_takeToldYears_57 (Nat.le_of_ble_eq_true rfl) rfl ?_
    refine V_iconst hX dX8_takeToldYears_59 ic_0 ?_
    refine V_istore hX dX8_takeToldYears_60 (Nat.le_of_ble_eq_true rfl) rfl ?_
    refine V_iconst hX dX8_takeToldYears_62 ic_1 ?_
    refine V_istore hX dX8_takeToldYears_63 (Nat.le_of_ble_eq_true rfl) rfl ?_
    refine V_mask [true, true, true, true, true, true, true, true] ?_
    exact v_X8_takeToldYears_65 hd9 hX hE _ _ _ _ _ _ _ _ _ hr
set_option maxRecDepth 100000 in
set_option maxHeartbeats 4000000 in
theorem c_X8_takeToldYears {d : Nat} (hd9 : 3 ≤ d) {p0 : Int32} {w : Wd} {r : Wd} (hr : f_X8_takeToldYears p0 w = some r) : Con d yX8_takeToldYears cX8_takeToldYears 8 none [.ref 12, .int p0] w none r := by
  refine Con_of (by decide) (Nat.le_of_ble_eq_true rfl) (fun X hX hE => ?_)
  have hX : bOk cX8_takeToldYears 8 RX8 d X := hX
  show bV X 0 [some (.ref 12), some (.int p0), none, none, none, none, none, none] [] w
  obtain ⟨d, rfl⟩ : ∃ e, d = e + 1 := ⟨d - 1, by omega⟩
  unfold f_X8_takeToldYears at hr
  refine V_aload_n hX dX8_takeToldYears_0 rfl rfl ?_
  refine G_RX8_24 hX dX8_takeToldYears_1 ?_
  refine G_RX8_60 hX dX8_takeToldYears_4 ?_
  refine V_iload_n hX dX8_takeToldYears_7 rfl rfl ?_
  obtain ⟨q1, hq1, hr⟩ := bnd hr
  refine C_RX8_28 hX (c_X9_at (by omega) hq1) (Nat.le_of_ble_eq_true rfl) dX8_takeToldYears_8 ?_
  refine V_istore_n hX dX8_takeToldYears_11 rfl (Nat.le_of_ble_eq_true rfl) rfl ?_
  refine V_aload_n hX dX8_takeToldYears_12 rfl rfl ?_
  refine G_RX8_24 hX dX8_takeToldYears_13 ?_
  refine G_RX8_63 hX dX8_takeToldYears_16 ?_
  refine V_iload_n hX dX8_takeToldYears_19 rfl rfl ?_
  obtain ⟨q2, hq2, hr⟩ := bnd hr
  refine C_RX8_28 hX (c_X9_at (by omega) hq2) (Nat.le_of_ble_eq_true rfl) dX8_takeToldYears_20 ?_
  refine V_istore_n hX dX8_takeToldYears_23 rfl (Nat.le_of_ble_eq_true rfl) rfl ?_
  refine V_aload_n hX dX8_takeToldYears_24 rfl rfl ?_
  refine G_RX8_24 hX dX8_takeToldYears_25 ?_
  refine V_iload_n hX dX8_takeToldYears_28 rfl rfl ?_
  obtain ⟨q3, hq3, hr⟩ := bnd hr
  refine C_RX8_66 hX (c_X0_isBundle (by omega) hq3) (Nat.le_of_ble_eq_true rfl) dX8_takeToldYears_29 ?_
  refine V_if_eq (tgt := 46) hX dX8_takeToldYears_32 (by decide) (fun h32 => ?_) (fun h32 => ?_)
  · rw [if_pos h32] at hr
    refine V_iconst hX dX8_takeToldYears_46 ic_0 ?_
    refine V_mask [true, true, true, true, false, false, false, false] ?_
    exact v_X8_takeToldYears_47 hd9 hX hE _ _ _ _ _ hr
  · rw [if_neg h32] at hr
    refine V_aload_n hX dX8_takeToldYears_35 rfl rfl ?_
    refine G_RX8_24 hX dX8_takeToldYears_36 ?_
    refine V_iload_n hX dX8_takeToldYears_39 rfl rfl ?_
    obtain ⟨q4, hq4, hr⟩ := bnd hr
    refine C_RX8_69 hX (c_X0_fittingTeams (by omega) hq4) (Nat.le_of_ble_eq_true rfl) dX8_takeToldYears_40 ?_
    refine V_goto (tgt := 47) hX dX8_takeToldYears_43 (by decide) ?_
    refine V_mask [true, true, true, true, false, false, false, false] ?_
    exact v_X8_takeToldYears_47 hd9 hX hE _ _ _ _ _ hr
def f_X8_tighten_2 : Nat → Int32 → Int32 → Int32 → Wd → Option Wd
  | 0, _, _, _, _ => none
  | n + 1, x1, x2, x3, w => if 14 ≤ x3 then
        (some w)
      else
        (if x2 = 0 then
          (some w)
        else
          (Option.bind (f_X9_has x2 x3 w) fun q1 =>
          if q1.1 = 0 then
            (f_X8_tighten_2 n x1 x2 (x3 + 1) q1.2)
          else
            (Option.bind (f_X8_earliestOf x1 q1.2) fun q2 =>
            Option.bind (f_X8_earliestOf x3 q2.2) fun q3 =>
            Option.bind (f_X9_put 13 x1 (jmax q2.1 (q3.1 + 1)) q3.2) fun q4 =>
            Option.bind (f_X8_latestOf x3 q4) fun q5 =>
            Option.bind (f_X8_latestOf x1 q5.2) fun q6 =>
            Option.bind (f_X9_put 14 x3 (jmin q5.1 (q6.1 - 1)) q6.2) fun q7 =>
            f_X8_tighten_2 n x1 x2 (x3 + 1) q7)))
def f_X8_tighten (p0 : Int32) (p1 : Int32) (w : Wd) : Option Wd := f_X8_tighten_2 fu p0 p1 0 w
set_option maxRecDepth 100000 in
set_option maxHeartbeats 4000000 in
theorem v_X8_tighten_2 {d : Nat} (hd9 : 2 ≤ d) {X : bX} (hX : bOk cX8_tighten 4 RX8 d X) {r : Wd} (hE : bEnd none none r X) : ∀ (n : Nat) (x1 : Int32) (x2 : Int32) (x3 : Int32) (w : Wd), f_X8_tighten_2 n x1 x2 x3 w = some r → bV X 2 [some (.ref 12), some (.int x1), some (.int x2), some (.int x3)] [] w := by
  obtain ⟨d, rfl⟩ : ∃ e, d = e + 1 := ⟨d - 1, by omega⟩
  intro n
  induction n with
  | zero => intro x1 x2 x3 w hr; exact absurd hr (by simp [f_X8_tighten_2])
  | succ n ih =>
    intro x1 x2 x3 w hr
    rw [f_X8_tighten_2] at hr
    refine V_iload_n hX dX8_tighten_2 rfl rfl ?_
    refine V_bipush hX dX8_tighten_3 bp_14 ?_
    refine V_icmp_ge (tgt := 72) hX dX8_tighten_5 (by decide) (fun h5 => ?_) (fun h5 => ?_)
    · rw [if_pos h5] at hr
      cases hr
      exact V_vret hX hE dX8_tighten_72
    · rw [if_neg h5] at hr
      refine V_iload_n hX dX8_tighten_8 rfl rfl ?_
      refine V_if_eq (tgt := 72) hX dX8_tighten_9 (by decide) (fun h9 => ?_) (fun h9 => ?_)
      · rw [if_pos h9] at hr
        cases hr
        exact V_vret hX hE dX8_tighten_72
      · rw [if_neg h9] at hr
        refine V_iload_n hX dX8_tighten_12 rfl rfl ?_
        refine V_iload_n hX dX8_tighten_13 rfl rfl ?_
        obtain ⟨q1, hq1, hr⟩ := bnd hr
        refine C_RX8_72 hX (c_X9_has (by omega) hq1) (Nat.le_of_ble_eq_true rfl) dX8_tighten_14 ?_
        refine V_if_eq (tgt := 66) hX dX8_tighten_17 (by decide) (fun h17 => ?_) (fun h17 => ?_)
        · rw [if_pos h17] at hr
          refine V_iinc hX dX8_tighten_66 rfl (ii_1 _) (Nat.le_of_ble_eq_true rfl) rfl ?_
          refine V_goto (tgt := 2) hX dX8_tighten_69 (by decide) ?_
          refine V_mask [true, true, true, true] ?_
          exact ih _ _ _ _ hr
        · rw [if_neg h17] at hr
          refine V_aload_n hX dX8_tighten_20 rfl rfl ?_
          refine G_RX8_9 hX dX8_tighten_21 ?_
          refine V_iload_n hX dX8_tighten_24 rfl rfl ?_
          refine V_aload_n hX dX8_tighten_25 rfl rfl ?_
          refine V_iload_n hX dX8_tighten_26 rfl rfl ?_
          obtain ⟨q2, hq2, hr⟩ := bnd hr
          refine C_RX8_54 hX (c_X8_earliestOf (by omega) hq2) (Nat.le_of_ble_eq_true rfl) dX8_tighten_27 ?_
          refine V_aload_n hX dX8_tighten_30 rfl rfl ?_
          refine V_iload_n hX dX8_tighten_31 rfl rfl ?_
          obtain ⟨q3, hq3, hr⟩ := bnd hr
          refine C_RX8_54 hX (c_X8_earliestOf (by omega) hq3) (Nat.le_of_ble_eq_true rfl) dX8_tighten_32 ?_
          refine V_iconst hX dX8_tighten_35 ic_1 ?_
          refine V_iadd hX dX8_tighten_36 ?_
          refine V_mmax hX mt_RX8_85 (by omega) (Nat.le_of_ble_eq_true rfl) dX8_tighten_37 ?_
          obtain ⟨q4, hq4, hr⟩ := bnd hr
          refine C_RX8_88 hX (c_X9_put (by omega) hq4) (Nat.le_of_ble_eq_true rfl) dX8_tighten_40 ?_
          refine V_aload_n hX dX8_tighten_43 rfl rfl ?_
          refine G_RX8_15 hX dX8_tighten_44 ?_
          refine V_iload_n hX dX8_tighten_47 rfl rfl ?_
          refine V_aload_n hX dX8_tighten_48 rfl rfl ?_
          refine V_iload_n hX dX8_tighten_49 rfl rfl ?_
          obtain ⟨q5, hq5, hr⟩ := bnd hr
          refine C_RX8_57 hX (c_X8_latestOf (by omega) hq5) (Nat.le_of_ble_eq_true rfl) dX8_tighten_50 ?_
          refine V_aload_n hX dX8_tighten_53 rfl rfl ?_
          refine V_iload_n hX dX8_tighten_54 rfl rfl ?_
          obtain ⟨q6, hq6, hr⟩ := bnd hr
          refine C_RX8_57 hX (c_X8_latestOf (by omega) hq6) (Nat.le_of_ble_eq_true rfl) dX8_tighten_55 ?_
          refine V_iconst hX dX8_tighten_58 ic_1 ?_
          refine V_isub hX dX8_tighten_59 ?_
          refine V_mmin hX mt_RX8_80 (by omega) (Nat.le_of_ble_eq_true rfl) dX8_tighten_60 ?_
          obtain ⟨q7, hq7, hr⟩ := bnd hr
          refine C_RX8_88 hX (c_X9_put (by omega) hq7) (Nat.le_of_ble_eq_true rfl) dX8_tighten_63 ?_
          refine V_iinc hX dX8_tighten_66 rfl (ii_1 _) (Nat.le_of_ble_eq_true rfl) rfl ?_
          refine V_goto (tgt := 2) hX dX8_tighten_69 (by decide) ?_
          refine V_mask [true, true, true, true] ?_
          exact ih _ _ _ _ hr
set_option maxRecDepth 100000 in
set_option maxHeartbeats 4000000 in
theorem c_X8_tighten {d : Nat} (hd9 : 2 ≤ d) {p0 : Int32} {p1 : Int32} {w : Wd} {r : Wd} (hr : f_X8_tighten p0 p1 w = some r) : Con d yX8_tighten cX8_tighten 4 none [.ref 12, .int p0, .int p1] w none r := by
  refine Con_of (by decide) (Nat.le_of_ble_eq_true rfl) (fun X hX hE => ?_)
  have hX : bOk cX8_tighten 4 RX8 d X := hX
  show bV X 0 [some (.ref 12), some (.int p0), some (.int p1), none] [] w
  obtain ⟨d, rfl⟩ : ∃ e, d = e + 1 := ⟨d - 1, by omega⟩
  unfold f_X8_tighten at hr
  refine V_iconst hX dX8_tighten_0 ic_0 ?_
  refine V_istore_n hX dX8_tighten_1 rfl (Nat.le_of_ble_eq_true rfl) rfl ?_
  refine V_mask [true, true, true, true] ?_
  exact v_X8_tighten_2 hd9 hX hE _ _ _ _ _ hr
def f_X8_settle_71 : Nat → Int32 → Wd → Option (Int32 × Wd)
  | 0, _, _ => none
  | n + 1, x1, w => if 14 ≤ x1 then
        (some (1, w))
      else
        (Option.bind (f_X0_isThing x1 w) fun q1 =>
        if q1.1 = 0 then
          (f_X8_settle_71 n (x1 + 1) q1.2)
        else
          (Option.bind (f_X8_earliestOf x1 q1.2) fun q2 =>
          Option.bind (f_X8_latestOf x1 q2.2) fun q3 =>
          if q2.1 ≤ q3.1 then
            (f_X8_settle_71 n (x1 + 1) q3.2)
          else
            (some (0, q3.2))))
def f_X8_settle_38 (k30 : Int32 → Wd → Option (Int32 × Wd)) : Nat → Int32 → Int32 → Wd → Option (Int32 × Wd)
  | 0, _, _, _ => none
  | n + 1, x1, x2, w => if 14 ≤ x2 then
        (k30 (x1 + 1) w)
      else
        (Option.bind (f_X0_rightUnder x2 w) fun q1 =>
        Option.bind (f_X8_tighten x2 q1.1 q1.2) fun q2 =>
        f_X8_settle_38 k30 n x1 (x2 + 1) q2)
def f_X8_settle_30 : Nat → Int32 → Wd → Option (Int32 × Wd)
  | 0, _, _ => none
  | n + 1, x1, w => if 14 ≤ x1 then
        (f_X8_settle_71 fu 0 w)
      else
        (f_X8_settle_38 (f_X8_settle_30 n) fu x1 0 w)
def f_X8_settle_11 : Nat → Int32 → Wd → Option (Int32 × Wd)
  | 0, _, _ => none
  | n + 1, x1, w => if 14 ≤ x1 then
        (f_X8_settle_30 fu 0 w)
      else
        (Option.bind (f_X8_takeToldYears x1 w) fun q1 =>
        f_X8_settle_11 n (x1 + 1) q1)
def f_X8_settle (w : Wd) : Option (Int32 × Wd) := Option.bind (f_X8_ringed w) fun q1 =>
    if q1.1 = 0 then
      (f_X8_settle_11 fu 0 q1.2)
    else
      (some (0, q1.2))
set_option maxRecDepth 100000 in
set_option maxHeartbeats 4000000 in
theorem v_X8_settle_71 {d : Nat} (hd9 : 4 ≤ d) {X : bX} (hX : bOk cX8_settle 3 RX8 d X) {r : (Int32 × Wd)} (hE : bEnd (some .boolean) (some (.int r.1)) r.2 X) : ∀ (n : Nat) (x1 : Int32) (w : Wd), f_X8_settle_71 n x1 w = some r → bV X 71 [some (.ref 12), some (.int x1), none] [] w := by
  obtain ⟨d, rfl⟩ : ∃ e, d = e + 1 := ⟨d - 1, by omega⟩
  intro n
  induction n with
  | zero => intro x1 w hr; exact absurd hr (by simp [f_X8_settle_71])
  | succ n ih =>
    intro x1 w hr
    rw [f_X8_settle_71] at hr
    refine V_iload_n hX dX8_settle_71 rfl rfl ?_
    refine V_bipush hX dX8_settle_72 bp_14 ?_
    refine V_icmp_ge (tgt := 109) hX dX8_settle_74 (by decide) (fun h74 => ?_) (fun h74 => ?_)
    · rw [if_pos h74] at hr
      refine V_iconst hX dX8_settle_109 ic_1 ?_
      cases hr
      exact V_iret hX hE rfl dX8_settle_110
    · rw [if_neg h74] at hr
      refine V_aload_n hX dX8_settle_77 rfl rfl ?_
      refine G_RX8_24 hX dX8_settle_78 ?_
      refine V_iload_n hX dX8_settle_81 rfl rfl ?_
      obtain ⟨q1, hq1, hr⟩ := bnd hr
      refine C_RX8_50 hX (c_X0_isThing (by omega) hq1) (Nat.le_of_ble_eq_true rfl) dX8_settle_82 ?_
      refine V_if_eq (tgt := 103) hX dX8_settle_85 (by decide) (fun h85 => ?_) (fun h85 => ?_)
      · rw [if_pos h85] at hr
        refine V_iinc hX dX8_settle_103 rfl (ii_1 _) (Nat.le_of_ble_eq_true rfl) rfl ?_
        refine V_goto (tgt := 71) hX dX8_settle_106 (by decide) ?_
        refine V_mask [true, true, false] ?_
        exact ih _ _ hr
      · rw [if_neg h85] at hr
        refine V_aload_n hX dX8_settle_88 rfl rfl ?_
        refine V_iload_n hX dX8_settle_89 rfl rfl ?_
        obtain ⟨q2, hq2, hr⟩ := bnd hr
        refine C_RX8_54 hX (c_X8_earliestOf (by omega) hq2) (Nat.le_of_ble_eq_true rfl) dX8_settle_90 ?_
        refine V_aload_n hX dX8_settle_93 rfl rfl ?_
        refine V_iload_n hX dX8_settle_94 rfl rfl ?_
        obtain ⟨q3, hq3, hr⟩ := bnd hr
        refine C_RX8_57 hX (c_X8_latestOf (by omega) hq3) (Nat.le_of_ble_eq_true rfl) dX8_settle_95 ?_
        refine V_icmp_le (tgt := 103) hX dX8_settle_98 (by decide) (fun h98 => ?_) (fun h98 => ?_)
        · rw [if_pos h98] at hr
          refine V_iinc hX dX8_settle_103 rfl (ii_1 _) (Nat.le_of_ble_eq_true rfl) rfl ?_
          refine V_goto (tgt := 71) hX dX8_settle_106 (by decide) ?_
          refine V_mask [true, true, false] ?_
          exact ih _ _ hr
        · rw [if_neg h98] at hr
          refine V_iconst hX dX8_settle_101 ic_0 ?_
          cases hr
          exact V_iret hX hE rfl dX8_settle_102
set_option maxRecDepth 100000 in
set_option maxHeartbeats 4000000 in
theorem v_X8_settle_38 {d : Nat} (hd9 : 4 ≤ d) {X : bX} (hX : bOk cX8_settle 3 RX8 d X) {r : (Int32 × Wd)} (hE : bEnd (some .boolean) (some (.int r.1)) r.2 X) {k30 : Int32 → Wd → Option (Int32 × Wd)} (hk30 : ∀ (x1 : Int32) (w : Wd), k30 x1 w = some r → bV X 30 [some (.ref 12), some (.int x1), none] [] w) : ∀ (n : Nat) (x1 : Int32) (x2 : Int32) (w : Wd), f_X8_settle_38 k30 n x1 x2 w = some r → bV X 38 [some (.ref 12), some (.int x1), some (.int x2)] [] w := by
  obtain ⟨d, rfl⟩ : ∃ e, d = e + 1 := ⟨d - 1, by omega⟩
  intro n
  induction n with
  | zero => intro x1 x2 w hr; exact absurd hr (by simp [f_X8_settle_38])
  | succ n ih =>
    intro x1 x2 w hr
    rw [f_X8_settle_38] at hr
    refine V_iload_n hX dX8_settle_38 rfl rfl ?_
    refine V_bipush hX dX8_settle_39 bp_14 ?_
    refine V_icmp_ge (tgt := 63) hX dX8_settle_41 (by decide) (fun h41 => ?_) (fun h41 => ?_)
    · rw [if_pos h41] at hr
      refine V_iinc hX dX8_settle_63 rfl (ii_1 _) (Nat.le_of_ble_eq_true rfl) rfl ?_
      refine V_goto (tgt := 30) hX dX8_settle_66 (by decide) ?_
      refine V_mask [true, true, false] ?_
      exact hk30 _ _ hr
    · rw [if_neg h41] at hr
      refine V_aload_n hX dX8_settle_44 rfl rfl ?_
      refine V_iload_n hX dX8_settle_45 rfl rfl ?_
      refine V_aload_n hX dX8_settle_46 rfl rfl ?_
      refine G_RX8_24 hX dX8_settle_47 ?_
      refine V_iload_n hX dX8_settle_50 rfl rfl ?_
      obtain ⟨q1, hq1, hr⟩ := bnd hr
      refine C_RX8_40 hX (c_X0_rightUnder (by omega) hq1) (Nat.le_of_ble_eq_true rfl) dX8_settle_51 ?_
      obtain ⟨q2, hq2, hr⟩ := bnd hr
      refine C_RX8_46 hX (c_X8_tighten (by omega) hq2) (Nat.le_of_ble_eq_true rfl) dX8_settle_54 ?_
      refine V_iinc hX dX8_settle_57 rfl (ii_1 _) (Nat.le_of_ble_eq_true rfl) rfl ?_
      refine V_goto (tgt := 38) hX dX8_settle_60 (by decide) ?_
      refine V_mask [true, true, true] ?_
      exact ih _ _ _ hr
set_option maxRecDepth 100000 in
set_option maxHeartbeats 4000000 in
theorem v_X8_settle_30 {d : Nat} (hd9 : 4 ≤ d) {X : bX} (hX : bOk cX8_settle 3 RX8 d X) {r : (Int32 × Wd)} (hE : bEnd (some .boolean) (some (.int r.1)) r.2 X) : ∀ (n : Nat) (x1 : Int32) (w : Wd), f_X8_settle_30 n x1 w = some r → bV X 30 [some (.ref 12), some (.int x1), none] [] w := by
  obtain ⟨d, rfl⟩ : ∃ e, d = e + 1 := ⟨d - 1, by omega⟩
  intro n
  induction n with
  | zero => intro x1 w hr; exact absurd hr (by simp [f_X8_settle_30])
  | succ n ih =>
    intro x1 w hr
    rw [f_X8_settle_30] at hr
    refine V_iload_n hX dX8_settle_30 rfl rfl ?_
    refine V_bipush hX dX8_settle_31 bp_14 ?_
    refine V_icmp_ge (tgt := 69) hX dX8_settle_33 (by decide) (fun h33 => ?_) (fun h33 => ?_)
    · rw [if_pos h33] at hr
      refine V_iconst hX dX8_settle_69 ic_0 ?_
      refine V_istore_n hX dX8_settle_70 rfl (Nat.le_of_ble_eq_true rfl) rfl ?_
      refine V_mask [true, true, false] ?_
      exact v_X8_settle_71 hd9 hX hE _ _ _ hr
    · rw [if_neg h33] at hr
      refine V_iconst hX dX8_settle_36 ic_0 ?_
      refine V_istore_n hX dX8_settle_37 rfl (Nat.le_of_ble_eq_true rfl) rfl ?_
      refine V_mask [true, true, true] ?_
      exact v_X8_settle_38 hd9 hX hE ih _ _ _ _ hr
set_option maxRecDepth 100000 in
set_option maxHeartbeats 4000000 in
theorem v_X8_settle_11 {d : Nat} (hd9 : 4 ≤ d) {X : bX} (hX : bOk cX8_settle 3 RX8 d X) {r : (Int32 × Wd)} (hE : bEnd (some .boolean) (some (.int r.1)) r.2 X) : ∀ (n : Nat) (x1 : Int32) (w : Wd), f_X8_settle_11 n x1 w = some r → bV X 11 [some (.ref 12), some (.int x1), none] [] w := by
  obtain ⟨d, rfl⟩ : ∃ e, d = e + 1 := ⟨d - 1, by omega⟩
  intro n
  induction n with
  | zero => intro x1 w hr; exact absurd hr (by simp [f_X8_settle_11])
  | succ n ih =>
    intro x1 w hr
    rw [f_X8_settle_11] at hr
    refine V_iload_n hX dX8_settle_11 rfl rfl ?_
    refine V_bipush hX dX8_settle_12 bp_14 ?_
    refine V_icmp_ge (tgt := 28) hX dX8_settle_14 (by decide) (fun h14 => ?_) (fun h14 => ?_)
    · rw [if_pos h14] at hr
      refine V_iconst hX dX8_settle_28 ic_0 ?_
      refine V_istore_n hX dX8_settle_29 rfl (Nat.le_of_ble_eq_true rfl) rfl ?_
      refine V_mask [true, true, false] ?_
      exact v_X8_settle_30 hd9 hX hE _ _ _ hr
    · rw [if_neg h14] at hr
      refine V_aload_n hX dX8_settle_17 rfl rfl ?_
      refine V_iload_n hX dX8_settle_18 rfl rfl ?_
      obtain ⟨q1, hq1, hr⟩ := bnd hr
      refine C_RX8_36 hX (c_X8_takeToldYears (by omega) hq1) (Nat.le_of_ble_eq_true rfl) dX8_settle_19 ?_
      refine V_iinc hX dX8_settle_22 rfl (ii_1 _) (Nat.le_of_ble_eq_true rfl) rfl ?_
      refine V_goto (tgt := 11) hX dX8_settle_25 (by decide) ?_
      refine V_mask [true, true, false] ?_
      exact ih _ _ hr
set_option maxRecDepth 100000 in
set_option maxHeartbeats 4000000 in
theorem c_X8_settle {d : Nat} (hd9 : 4 ≤ d) {w : Wd} {r : (Int32 × Wd)} (hr : f_X8_settle w = some r) : Con d yX8_settle cX8_settle 3 (some .boolean) [.ref 12] w (some (.int r.1)) r.2 := by
  refine Con_of (by decide) (Nat.le_of_ble_eq_true rfl) (fun X hX hE => ?_)
  have hX : bOk cX8_settle 3 RX8 d X := hX
  show bV X 0 [some (.ref 12), none, none] [] w
  obtain ⟨d, rfl⟩ : ∃ e, d = e + 1 := ⟨d - 1, by omega⟩
  unfold f_X8_settle at hr
  refine V_aload_n hX dX8_settle_0 rfl rfl ?_
  obtain ⟨q1, hq1, hr⟩ := bnd hr
  refine C_RX8_32 hX (c_X8_ringed (by omega) hq1) (Nat.le_of_ble_eq_true rfl) dX8_settle_1 ?_
  refine V_if_eq (tgt := 9) hX dX8_settle_4 (by decide) (fun h4 => ?_) (fun h4 => ?_)
  · rw [if_pos h4] at hr
    refine V_iconst hX dX8_settle_9 ic_0 ?_
    refine V_istore_n hX dX8_settle_10 rfl (Nat.le_of_ble_eq_true rfl) rfl ?_
    refine V_mask [true, true, false] ?_
    exact v_X8_settle_11 hd9 hX hE _ _ _ hr
  · rw [if_neg h4] at hr
    refine V_iconst hX dX8_settle_7 ic_0 ?_
    cases hr
    exact V_iret hX hE rfl dX8_settle_8
def f_X8_firstOfHeight_2 : Nat → Int32 → Int32 → Int32 → Wd → Option (Int32 × Wd)
  | 0, _, _, _, _ => none
  | n + 1, x1, x2, x3, w => if 14 ≤ x3 then
        (some ((-1), w))
      else
        (Option.bind (f_X9_has x1 x3 w) fun q1 =>
        if q1.1 = 0 then
          (f_X8_firstOfHeight_2 n x1 x2 (x3 + 1) q1.2)
        else
          (Option.bind (f_X9_at 16 x3 q1.2) fun q2 =>
          if q2.1 = x2 then
            (some (x3, q2.2))
          else
            (f_X8_firstOfHeight_2 n x1 x2 (x3 + 1) q2.2)))
def f_X8_firstOfHeight (p0 : Int32) (p1 : Int32) (w : Wd) : Option (Int32 × Wd) := f_X8_firstOfHeight_2 fu p0 p1 0 w
set_option maxRecDepth 100000 in
set_option maxHeartbeats 4000000 in
theorem v_X8_firstOfHeight_2 {d : Nat} (hd9 : 1 ≤ d) {X : bX} (hX : bOk cX8_firstOfHeight 4 RX8 d X) {r : (Int32 × Wd)} (hE : bEnd (some .int) (some (.int r.1)) r.2 X) : ∀ (n : Nat) (x1 : Int32) (x2 : Int32) (x3 : Int32) (w : Wd), f_X8_firstOfHeight_2 n x1 x2 x3 w = some r → bV X 2 [some (.ref 12), some (.int x1), some (.int x2), some (.int x3)] [] w := by
  obtain ⟨d, rfl⟩ : ∃ e, d = e + 1 := ⟨d - 1, by omega⟩
  intro n
  induction n with
  | zero => intro x1 x2 x3 w hr; exact absurd hr (by simp [f_X8_firstOfHeight_2])
  | succ n ih =>
    intro x1 x2 x3 w hr
    rw [f_X8_firstOfHeight_2] at hr
    refine V_iload_n hX dX8_firstOfHeight_2 rfl rfl ?_
    refine V_bipush hX dX8_firstOfHeight_3 bp_14 ?_
    refine V_icmp_ge (tgt := 36) hX dX8_firstOfHeight_5 (by decide) (fun h5 => ?_) (fun h5 => ?_)
    · rw [if_pos h5] at hr
      refine V_iconst hX dX8_firstOfHeight_36 ic_m1 ?_
      cases hr
      exact V_iret hX hE rfl dX8_firstOfHeight_37
    · rw [if_neg h5] at hr
      refine V_iload_n hX dX8_firstOfHeight_8 rfl rfl ?_
      refine V_iload_n hX dX8_firstOfHeight_9 rfl rfl ?_
      obtain ⟨q1, hq1, hr⟩ := bnd hr
      refine C_RX8_72 hX (c_X9_has (by omega) hq1) (Nat.le_of_ble_eq_true rfl) dX8_firstOfHeight_10 ?_
      refine V_if_eq (tgt := 30) hX dX8_firstOfHeight_13 (by decide) (fun h13 => ?_) (fun h13 => ?_)
      · rw [if_pos h13] at hr
        refine V_iinc hX dX8_firstOfHeight_30 rfl (ii_1 _) (Nat.le_of_ble_eq_true rfl) rfl ?_
        refine V_goto (tgt := 2) hX dX8_firstOfHeight_33 (by decide) ?_
        refine V_mask [true, true, true, true] ?_
        exact ih _ _ _ _ hr
      · rw [if_neg h13] at hr
        refine V_aload_n hX dX8_firstOfHeight_16 rfl rfl ?_
        refine G_RX8_21 hX dX8_firstOfHeight_17 ?_
        refine V_iload_n hX dX8_firstOfHeight_20 rfl rfl ?_
        obtain ⟨q2, hq2, hr⟩ := bnd hr
        refine C_RX8_28 hX (c_X9_at (by omega) hq2) (Nat.le_of_ble_eq_true rfl) dX8_firstOfHeight_21 ?_
        refine V_iload_n hX dX8_firstOfHeight_24 rfl rfl ?_
        refine V_icmp_ne (tgt := 30) hX dX8_firstOfHeight_25 (by decide) (fun h25 => ?_) (fun h25 => ?_)
        · rw [if_neg h25] at hr
          refine V_iinc hX dX8_firstOfHeight_30 rfl (ii_1 _) (Nat.le_of_ble_eq_true rfl) rfl ?_
          refine V_goto (tgt := 2) hX dX8_firstOfHeight_33 (by decide) ?_
          refine V_mask [true, true, true, true] ?_
          exact ih _ _ _ _ hr
        · rw [if_pos h25] at hr
          refine V_iload_n hX dX8_firstOfHeight_28 rfl rfl ?_
          cases hr
          exact V_iret hX hE rfl dX8_firstOfHeight_29
set_option maxRecDepth 100000 in
set_option maxHeartbeats 4000000 in
theorem c_X8_firstOfHeight {d : Nat} (hd9 : 1 ≤ d) {p0 : Int32} {p1 : Int32} {w : Wd} {r : (Int32 × Wd)} (hr : f_X8_firstOfHeight p0 p1 w = some r) : Con d yX8_firstOfHeight cX8_firstOfHeight 4 (some .int) [.ref 12, .int p0, .int p1] w (some (.int r.1)) r.2 := by
  refine Con_of (by decide) (Nat.le_of_ble_eq_true rfl) (fun X hX hE => ?_)
  have hX : bOk cX8_firstOfHeight 4 RX8 d X := hX
  show bV X 0 [some (.ref 12), some (.int p0), some (.int p1), none] [] w
  obtain ⟨d, rfl⟩ : ∃ e, d = e + 1 := ⟨d - 1, by omega⟩
  unfold f_X8_firstOfHeight at hr
  refine V_iconst hX dX8_firstOfHeight_0 ic_0 ?_
  refine V_istore_n hX dX8_firstOfHeight_1 rfl (Nat.le_of_ble_eq_true rfl) rfl ?_
  refine V_mask [true, true, true, true] ?_
  exact v_X8_firstOfHeight_2 hd9 hX hE _ _ _ _ _ hr
def f_X8_raise_2 : Nat → Int32 → Int32 → Int32 → Wd → Option Wd
  | 0, _, _, _, _ => none
  | n + 1, x1, x2, x3, w => if 14 ≤ x3 then
        (some w)
      else
        (if x2 = 0 then
          (some w)
        else
          (Option.bind (f_X9_has x2 x3 w) fun q1 =>
          if q1.1 = 0 then
            (f_X8_raise_2 n x1 x2 (x3 + 1) q1.2)
          else
            (Option.bind (f_X9_at 16 x1 q1.2) fun q2 =>
            Option.bind (f_X9_at 16 x3 q2.2) fun q3 =>
            Option.bind (f_X9_put 16 x1 (jmax q2.1 (q3.1 + 1)) q3.2) fun q4 =>
            f_X8_raise_2 n x1 x2 (x3 + 1) q4)))
def f_X8_raise (p0 : Int32) (p1 : Int32) (w : Wd) : Option Wd := f_X8_raise_2 fu p0 p1 0 w
set_option maxRecDepth 100000 in
set_option maxHeartbeats 4000000 in
theorem v_X8_raise_2 {d : Nat} (hd9 : 1 ≤ d) {X : bX} (hX : bOk cX8_raise 4 RX8 d X) {r : Wd} (hE : bEnd none none r X) : ∀ (n : Nat) (x1 : Int32) (x2 : Int32) (x3 : Int32) (w : Wd), f_X8_raise_2 n x1 x2 x3 w = some r → bV X 2 [some (.ref 12), some (.int x1), some (.int x2), some (.int x3)] [] w := by
  obtain ⟨d, rfl⟩ : ∃ e, d = e + 1 := ⟨d - 1, by omega⟩
  intro n
  induction n with
  | zero => intro x1 x2 x3 w hr; exact absurd hr (by simp [f_X8_raise_2])
  | succ n ih =>
    intro x1 x2 x3 w hr
    rw [f_X8_raise_2] at hr
    refine V_iload_n hX dX8_raise_2 rfl rfl ?_
    refine V_bipush hX dX8_raise_3 bp_14 ?_
    refine V_icmp_ge (tgt := 55) hX dX8_raise_5 (by decide) (fun h5 => ?_) (fun h5 => ?_)
    · rw [if_pos h5] at hr
      cases hr
      exact V_vret hX hE dX8_raise_55
    · rw [if_neg h5] at hr
      refine V_iload_n hX dX8_raise_8 rfl rfl ?_
      refine V_if_eq (tgt := 55) hX dX8_raise_9 (by decide) (fun h9 => ?_) (fun h9 => ?_)
      · rw [if_pos h9] at hr
        cases hr
        exact V_vret hX hE dX8_raise_55
      · rw [if_neg h9] at hr
        refine V_iload_n hX dX8_raise_12 rfl rfl ?_
        refine V_iload_n hX dX8_raise_13 rfl rfl ?_
        obtain ⟨q1, hq1, hr⟩ := bnd hr
        refine C_RX8_72 hX (c_X9_has (by omega) hq1) (Nat.le_of_ble_eq_true rfl) dX8_raise_14 ?_
        refine V_if_eq (tgt := 49) hX dX8_raise_17 (by decide) (fun h17 => ?_) (fun h17 => ?_)
        · rw [if_pos h17] at hr
          refine V_iinc hX dX8_raise_49 rfl (ii_1 _) (Nat.le_of_ble_eq_true rfl) rfl ?_
          refine V_goto (tgt := 2) hX dX8_raise_52 (by decide) ?_
          refine V_mask [true, true, true, true] ?_
          exact ih _ _ _ _ hr
        · rw [if_neg h17] at hr
          refine V_aload_n hX dX8_raise_20 rfl rfl ?_
          refine G_RX8_21 hX dX8_raise_21 ?_
          refine V_iload_n hX dX8_raise_24 rfl rfl ?_
          refine V_aload_n hX dX8_raise_25 rfl rfl ?_
          refine G_RX8_21 hX dX8_raise_26 ?_
          refine V_iload_n hX dX8_raise_29 rfl rfl ?_
          obtain ⟨q2, hq2, hr⟩ := bnd hr
          refine C_RX8_28 hX (c_X9_at (by omega) hq2) (Nat.le_of_ble_eq_true rfl) dX8_raise_30 ?_
          refine V_aload_n hX dX8_raise_33 rfl rfl ?_
          refine G_RX8_21 hX dX8_raise_34 ?_
          refine V_iload_n hX dX8_raise_37 rfl rfl ?_
          obtain ⟨q3, hq3, hr⟩ := bnd hr
          refine C_RX8_28 hX (c_X9_at (by omega) hq3) (Nat.le_of_ble_eq_true rfl) dX8_raise_38 ?_
          refine V_iconst hX dX8_raise_41 ic_1 ?_
          refine V_iadd hX dX8_raise_42 ?_
          refine V_mmax hX mt_RX8_85 (by omega) (Nat.le_of_ble_eq_true rfl) dX8_raise_43 ?_
          obtain ⟨q4, hq4, hr⟩ := bnd hr
          refine C_RX8_88 hX (c_X9_put (by omega) hq4) (Nat.le_of_ble_eq_true rfl) dX8_raise_46 ?_
          refine V_iinc hX dX8_raise_49 rfl (ii_1 _) (Nat.le_of_ble_eq_true rfl) rfl ?_
          refine V_goto (tgt := 2) hX dX8_raise_52 (by decide) ?_
          refine V_mask [true, true, true, true] ?_
          exact ih _ _ _ _ hr
set_option maxRecDepth 100000 in
set_option maxHeartbeats 4000000 in
theorem c_X8_raise {d : Nat} (hd9 : 1 ≤ d) {p0 : Int32} {p1 : Int32} {w : Wd} {r : Wd} (hr : f_X8_raise p0 p1 w = some r) : Con d yX8_raise cX8_raise 4 none [.ref 12, .int p0, .int p1] w none r := by
  refine Con_of (by decide) (Nat.le_of_ble_eq_true rfl) (fun X hX hE => ?_)
  have hX : bOk cX8_raise 4 RX8 d X := hX
  show bV X 0 [some (.ref 12), some (.int p0), some (.int p1), none] [] w
  obtain ⟨d, rfl⟩ : ∃ e, d = e + 1 := ⟨d - 1, by omega⟩
  unfold f_X8_raise at hr
  refine V_iconst hX dX8_raise_0 ic_0 ?_
  refine V_istore_n hX dX8_raise_1 rfl (Nat.le_of_ble_eq_true rfl) rfl ?_
  refine V_mask [true, true, true, true] ?_
  exact v_X8_raise_2 hd9 hX hE _ _ _ _ _ hr
def f_X8_measureHeights_45 (k37 : Int32 → Int32 → Wd → Option (Int32 × Wd)) : Nat → Int32 → Int32 → Int32 → Wd → Option (Int32 × Wd)
  | 0, _, _, _, _ => none
  | n + 1, x1, x2, x3, w => if 14 ≤ x3 then
        (k37 x1 (x2 + 1) w)
      else
        (Option.bind (f_X0_rightUnder x3 w) fun q1 =>
        Option.bind (f_X8_raise x3 q1.1 q1.2) fun q2 =>
        Option.bind (f_X9_at 16 x3 q2) fun q3 =>
        f_X8_measureHeights_45 k37 n (jmax x1 q3.1) x2 (x3 + 1) q3.2)
def f_X8_measureHeights_37 : Nat → Int32 → Int32 → Wd → Option (Int32 × Wd)
  | 0, _, _, _ => none
  | n + 1, x1, x2, w => if 14 ≤ x2 then
        (some (x1, w))
      else
        (f_X8_measureHeights_45 (f_X8_measureHeights_37 n) fu x1 x2 0 w)
def f_X8_measureHeights_2 : Nat → Int32 → Wd → Option (Int32 × Wd)
  | 0, _, _ => none
  | n + 1, x1, w => if 14 ≤ x1 then
        (f_X8_measureHeights_37 fu 0 0 w)
      else
        (Option.bind (f_X0_isThing x1 w) fun q1 =>
        Option.bind (f_X9_oneIf q1.1 q1.2) fun q2 =>
        Option.bind (f_X9_put 16 x1 q2.1 q2.2) fun q3 =>
        f_X8_measureHeights_2 n (x1 + 1) q3)
def f_X8_measureHeights (w : Wd) : Option (Int32 × Wd) := f_X8_measureHeights_2 fu 0 w
set_option maxRecDepth 100000 in
set_option maxHeartbeats 4000000 in
theorem v_X8_measureHeights_45 {d : Nat} (hd9 : 2 ≤ d) {X : bX} (hX : bOk cX8_measureHeights 4 RX8 d X) {r : (Int32 × Wd)} (hE : bEnd (some .int) (some (.int r.1)) r.2 X) {k37 : Int32 → Int32 → Wd → Option (Int32 × Wd)} (hk37 : ∀ (x1 : Int32) (x2 : Int32) (w : Wd), k37 x1 x2 w = some r → bV X 37 [some (.ref 12), some (.int x1), some (.int x2), none] [] w) : ∀ (n : Nat) (x1 : Int32) (x2 : Int32) (x3 : Int32) (w : Wd), f_X8_measureHeights_45 k37 n x1 x2 x3 w = some r → bV X 45 [some (.ref 12), some (.int x1), some (.int x2), some (.int x3)] [] w := by
  obtain ⟨d, rfl⟩ : ∃ e, d = e + 1 := ⟨d - 1, by omega⟩
  intro n
  induction n with
  | zero => intro x1 x2 x3 w hr; exact absurd hr (by simp [f_X8_measureHeights_45])
  | succ n ih =>
    intro x1 x2 x3 w hr
    rw [f_X8_measureHeights_45] at hr
    refine V_iload_n hX dX8_measureHeights_45 rfl rfl ?_
    refine V_bipush hX dX8_measureHeights_46 bp_14 ?_
    refine V_icmp_ge (tgt := 83) hX dX8_measureHeights_48 (by decide) (fun h48 => ?_) (fun h48 => ?_)
    · rw [if_pos h48] at hr
      refine V_iinc hX dX8_measureHeights_83 rfl (ii_1 _) (Nat.le_of_ble_eq_true rfl) rfl ?_
      refine V_goto (tgt := 37) hX dX8_measureHeights_86 (by decide) ?_
      refine V_mask [true, true, true, false] ?_
      exact hk37 _ _ _ hr
    · rw [if_neg h48] at hr
      refine V_aload_n hX dX8_measureHeights_51 rfl rfl ?_
      refine V_iload_n hX dX8_measureHeights_52 rfl rfl ?_
      refine V_aload_n hX dX8_measureHeights_53 rfl rfl ?_
      refine G_RX8_24 hX dX8_measureHeights_54 ?_
      refine V_iload_n hX dX8_measureHeights_57 rfl rfl ?_
      obtain ⟨q1, hq1, hr⟩ := bnd hr
      refine C_RX8_40 hX (c_X0_rightUnder (by omega) hq1) (Nat.le_of_ble_eq_true rfl) dX8_measureHeights_58 ?_
      obtain ⟨q2, hq2, hr⟩ := bnd hr
      refine C_RX8_109 hX (c_X8_raise (by omega) hq2) (Nat.le_of_ble_eq_true rfl) dX8_measureHeights_61 ?_
      refine V_iload_n hX dX8_measureHeights_64 rfl rfl ?_
      refine V_aload_n hX dX8_measureHeights_65 rfl rfl ?_
      refine G_RX8_21 hX dX8_measureHeights_66 ?_
      refine V_iload_n hX dX8_measureHeights_69 rfl rfl ?_
      obtain ⟨q3, hq3, hr⟩ := bnd hr
      refine C_RX8_28 hX (c_X9_at (by omega) hq3) (Nat.le_of_ble_eq_true rfl) dX8_measureHeights_70 ?_
      refine V_mmax hX mt_RX8_85 (by omega) (Nat.le_of_ble_eq_true rfl) dX8_measureHeights_73 ?_
      refine V_istore_n hX dX8_measureHeights_76 rfl (Nat.le_of_ble_eq_true rfl) rfl ?_
      refine V_iinc hX dX8_measureHeights_77 rfl (ii_1 _) (Nat.le_of_ble_eq_true rfl) rfl ?_
      refine V_goto (tgt := 45) hX dX8_measureHeights_80 (by decide) ?_
      refine V_mask [true, true, true, true] ?_
      exact ih _ _ _ _ hr
set_option maxRecDepth 100000 in
set_option maxHeartbeats 4000000 in
theorem v_X8_measureHeights_37 {d : Nat} (hd9 : 2 ≤ d) {X : bX} (hX : bOk cX8_measureHeights 4 RX8 d X) {r : (Int32 × Wd)} (hE : bEnd (some .int) (some (.int r.1)) r.2 X) : ∀ (n : Nat) (x1 : Int32) (x2 : Int32) (w : Wd), f_X8_measureHeights_37 n x1 x2 w = some r → bV X 37 [some (.ref 12), some (.int x1), some (.int x2), none] [] w := by
  obtain ⟨d, rfl⟩ : ∃ e, d = e + 1 := ⟨d - 1, by omega⟩
  intro n
  induction n with
  | zero => intro x1 x2 w hr; exact absurd hr (by simp [f_X8_measureHeights_37])
  | succ n ih =>
    intro x1 x2 w hr
    rw [f_X8_measureHeights_37] at hr
    refine V_iload_n hX dX8_measureHeights_37 rfl rfl ?_
    refine V_bipush hX dX8_measureHeights_38 bp_14 ?_
    refine V_icmp_ge (tgt := 89) hX dX8_measureHeights_40 (by decide) (fun h40 => ?_) (fun h40 => ?_)
    · rw [if_pos h40] at hr
      refine V_iload_n hX dX8_measureHeights_89 rfl rfl ?_
      cases hr
      exact V_iret hX hE rfl dX8_measureHeights_90
    · rw [if_neg h40] at hr
      refine V_iconst hX dX8_measureHeights_43 ic_0 ?_
      refine V_istore_n hX dX8_measureHeights_44 rfl (Nat.le_of_ble_eq_true rfl) rfl ?_
      refine V_mask [true, true, true, true] ?_
      exact v_X8_measureHeights_45 hd9 hX hE ih _ _ _ _ _ hr
set_option maxRecDepth 100000 in
set_option maxHeartbeats 4000000 in
theorem v_X8_measureHeights_2 {d : Nat} (hd9 : 2 ≤ d) {X : bX} (hX : bOk cX8_measureHeights 4 RX8 d X) {r : (Int32 × Wd)} (hE : bEnd (some .int) (some (.int r.1)) r.2 X) : ∀ (n : Nat) (x1 : Int32) (w : Wd), f_X8_measureHeights_2 n x1 w = some r → bV X 2 [some (.ref 12), some (.int x1), none, none] [] w := by
  obtain ⟨d, rfl⟩ : ∃ e, d = e + 1 := ⟨d - 1, by omega⟩
  intro n
  induction n with
  | zero => intro x1 w hr; exact absurd hr (by simp [f_X8_measureHeights_2])
  | succ n ih =>
    intro x1 w hr
    rw [f_X8_measureHeights_2] at hr
    refine V_iload_n hX dX8_measureHeights_2 rfl rfl ?_
    refine V_bipush hX dX8_measureHeights_3 bp_14 ?_
    refine V_icmp_ge (tgt := 33) hX dX8_measureHeights_5 (by decide) (fun h5 => ?_) (fun h5 => ?_)
    · rw [if_pos h5] at hr
      refine V_iconst hX dX8_measureHeights_33 ic_0 ?_
      refine V_istore_n hX dX8_measureHeights_34 rfl (Nat.le_of_ble_eq_true rfl) rfl ?_
      refine V_iconst hX dX8_measureHeights_35 ic_0 ?_
      refine V_istore_n hX dX8_measureHeights_36 rfl (Nat.le_of_ble_eq_true rfl) rfl ?_
      refine V_mask [true, true, true, false] ?_
      exact v_X8_measureHeights_37 hd9 hX hE _ _ _ _ hr
    · rw [if_neg h5] at hr
      refine V_aload_n hX dX8_measureHeights_8 rfl rfl ?_
      refine G_RX8_21 hX dX8_measureHeights_9 ?_
      refine V_iload_n hX dX8_measureHeights_12 rfl rfl ?_
      refine V_aload_n hX dX8_measureHeights_13 rfl rfl ?_
      refine G_RX8_24 hX dX8_measureHeights_14 ?_
      refine V_iload_n hX dX8_measureHeights_17 rfl rfl ?_
      obtain ⟨q1, hq1, hr⟩ := bnd hr
      refine C_RX8_50 hX (c_X0_isThing (by omega) hq1) (Nat.le_of_ble_eq_true rfl) dX8_measureHeights_18 ?_
      obtain ⟨q2, hq2, hr⟩ := bnd hr
      refine C_RX8_105 hX (c_X9_oneIf (by omega) hq2) (Nat.le_of_ble_eq_true rfl) dX8_measureHeights_21 ?_
      obtain ⟨q3, hq3, hr⟩ := bnd hr
      refine C_RX8_88 hX (c_X9_put (by omega) hq3) (Nat.le_of_ble_eq_true rfl) dX8_measureHeights_24 ?_
      refine V_iinc hX dX8_measureHeights_27 rfl (ii_1 _) (Nat.le_of_ble_eq_true rfl) rfl ?_
      refine V_goto (tgt := 2) hX dX8_measureHeights_30 (by decide) ?_
      refine V_mask [true, true, false, false] ?_
      exact ih _ _ hr
set_option maxRecDepth 100000 in
set_option maxHeartbeats 4000000 in
theorem c_X8_measureHeights {d : Nat} (hd9 : 2 ≤ d) {w : Wd} {r : (Int32 × Wd)} (hr : f_X8_measureHeights w = some r) : Con d yX8_measureHeights cX8_measureHeights 4 (some .int) [.ref 12] w (some (.int r.1)) r.2 := by
  refine Con_of (by decide) (Nat.le_of_ble_eq_true rfl) (fun X hX hE => ?_)
  have hX : bOk cX8_measureHeights 4 RX8 d X := hX
  show bV X 0 [some (.ref 12), none, none, none] [] w
  obtain ⟨d, rfl⟩ : ∃ e, d = e + 1 := ⟨d - 1, by omega⟩
  unfold f_X8_measureHeights at hr
  refine V_iconst hX dX8_measureHeights_0 ic_0 ?_
  refine V_istore_n hX dX8_measureHeights_1 rfl (Nat.le_of_ble_eq_true rfl) rfl ?_
  refine V_mask [true, true, false, false] ?_
  exact v_X8_measureHeights_2 hd9 hX hE _ _ _ hr
def f_X8_stackAt_44 : Nat → Int32 → Int32 → Int32 → Int32 → Wd → Option (Int32 × Wd)
  | 0, _, _, _, _, _ => none
  | n + 1, x1, x2, x3, x4, w => if x1 < x4 then
        (some (x3, w))
      else
        (Option.bind (f_X0_rightUnder x3 w) fun q1 =>
        Option.bind (f_X8_firstOfHeight q1.1 (x2 - x4) q1.2) fun q2 =>
        f_X8_stackAt_44 n x1 x2 q2.1 (x4 + 1) q2.2)
def f_X8_stackAt (p0 : Int32) (w : Wd) : Option (Int32 × Wd) := Option.bind (f_X8_ringed w) fun q1 =>
    if q1.1 = 0 then
      (Option.bind (f_X8_measureHeights q1.2) fun q2 =>
      if p0 = (-1) then
        (some (q2.1, q2.2))
      else
        (if p0 < q2.1 then
          (Option.bind (f_X8_firstOfHeight (q2.2.1 5 0) q2.1 q2.2) fun q3 =>
          f_X8_stackAt_44 fu p0 q2.1 q3.1 1 q3.2)
        else
          (some ((-1), q2.2))))
    else
      (some ((-1), q1.2))
set_option maxRecDepth 100000 in
set_option maxHeartbeats 4000000 in
theorem v_X8_stackAt_44 {d : Nat} (hd9 : 4 ≤ d) {X : bX} (hX : bOk cX8_stackAt 5 RX8 d X) {r : (Int32 × Wd)} (hE : bEnd (some .int) (some (.int r.1)) r.2 X) : ∀ (n : Nat) (x1 : Int32) (x2 : Int32) (x3 : Int32) (x4 : Int32) (w : Wd), f_X8_stackAt_44 n x1 x2 x3 x4 w = some r → bV X 44 [some (.ref 12), some (.int x1), some (.int x2), some (.int x3), some (.int x4)] [] w := by
  obtain ⟨d, rfl⟩ : ∃ e, d = e + 1 := ⟨d - 1, by omega⟩
  intro n
  induction n with
  | zero => intro x1 x2 x3 x4 w hr; exact absurd hr (by simp [f_X8_stackAt_44])
  | succ n ih =>
    intro x1 x2 x3 x4 w hr
    rw [f_X8_stackAt_44] at hr
    refine V_iload hX dX8_stackAt_44 rfl ?_
    refine V_iload_n hX dX8_stackAt_46 rfl rfl ?_
    refine V_icmp_gt (tgt := 73) hX dX8_stackAt_47 (by decide) (fun h47 => ?_) (fun h47 => ?_)
    · rw [if_pos h47] at hr
      refine V_iload_n hX dX8_stackAt_73 rfl rfl ?_
      cases hr
      exact V_iret hX hE rfl dX8_stackAt_74
    · rw [if_neg h47] at hr
      refine V_aload_n hX dX8_stackAt_50 rfl rfl ?_
      refine V_aload_n hX dX8_stackAt_51 rfl rfl ?_
      refine G_RX8_24 hX dX8_stackAt_52 ?_
      refine V_iload_n hX dX8_stackAt_55 rfl rfl ?_
      obtain ⟨q1, hq1, hr⟩ := bnd hr
      refine C_RX8_40 hX (c_X0_rightUnder (by omega) hq1) (Nat.le_of_ble_eq_true rfl) dX8_stackAt_56 ?_
      refine V_iload_n hX dX8_stackAt_59 rfl rfl ?_
      refine V_iload hX dX8_stackAt_60 rfl ?_
      refine V_isub hX dX8_stackAt_62 ?_
      obtain ⟨q2, hq2, hr⟩ := bnd hr
      refine C_RX8_102 hX (c_X8_firstOfHeight (by omega) hq2) (Nat.le_of_ble_eq_true rfl) dX8_stackAt_63 ?_
      refine V_istore_n hX dX8_stackAt_66 rfl (Nat.le_of_ble_eq_true rfl) rfl ?_
      refine V_iinc hX dX8_stackAt_67 rfl (ii_1 _) (Nat.le_of_ble_eq_true rfl) rfl ?_
      refine V_goto (tgt := 44) hX dX8_stackAt_70 (by decide) ?_
      refine V_mask [true, true, true, true, true] ?_
      exact ih _ _ _ _ _ hr
set_option maxRecDepth 100000 in
set_option maxHeartbeats 4000000 in
theorem c_X8_stackAt {d : Nat} (hd9 : 4 ≤ d) {p0 : Int32} {w : Wd} {r : (Int32 × Wd)} (hr : f_X8_stackAt p0 w = some r) : Con d yX8_stackAt cX8_stackAt 5 (some .int) [.ref 12, .int p0] w (some (.int r.1)) r.2 := by
  refine Con_of (by decide) (Nat.le_of_ble_eq_true rfl) (fun X hX hE => ?_)
  have hX : bOk cX8_stackAt 5 RX8 d X := hX
  show bV X 0 [some (.ref 12), some (.int p0), none, none, none] [] w
  obtain ⟨d, rfl⟩ : ∃ e, d = e + 1 := ⟨d - 1, by omega⟩
  unfold f_X8_stackAt at hr
  refine V_aload_n hX dX8_stackAt_0 rfl rfl ?_
  obtain ⟨q1, hq1, hr⟩ := bnd hr
  refine C_RX8_32 hX (c_X8_ringed (by omega) hq1) (Nat.le_of_ble_eq_true rfl) dX8_stackAt_1 ?_
  refine V_if_eq (tgt := 9) hX dX8_stackAt_4 (by decide) (fun h4 => ?_) (fun h4 => ?_)
  · rw [if_pos h4] at hr
    refine V_aload_n hX dX8_stackAt_9 rfl rfl ?_
    obtain ⟨q2, hq2, hr⟩ := bnd hr
    refine C_RX8_95 hX (c_X8_measureHeights (by omega) hq2) (Nat.le_of_ble_eq_true rfl) dX8_stackAt_10 ?_
    refine V_istore_n hX dX8_stackAt_13 rfl (Nat.le_of_ble_eq_true rfl) rfl ?_
    refine V_iload_n hX dX8_stackAt_14 rfl rfl ?_
    refine V_iconst hX dX8_stackAt_15 ic_m1 ?_
    refine V_icmp_ne (tgt := 21) hX dX8_stackAt_16 (by decide) (fun h16 => ?_) (fun h16 => ?_)
    · rw [if_neg h16] at hr
      refine V_iload_n hX dX8_stackAt_21 rfl rfl ?_
      refine V_iload_n hX dX8_stackAt_22 rfl rfl ?_
      refine V_icmp_lt (tgt := 28) hX dX8_stackAt_23 (by decide) (fun h23 => ?_) (fun h23 => ?_)
      · rw [if_pos h23] at hr
        refine V_aload_n hX dX8_stackAt_28 rfl rfl ?_
        refine V_aload_n hX dX8_stackAt_29 rfl rfl ?_
        refine G_RX8_24 hX dX8_stackAt_30 ?_
        refine G_RX8_98 hX dX8_stackAt_33 ?_
        refine V_iload_n hX dX8_stackAt_36 rfl rfl ?_
        obtain ⟨q3, hq3, hr⟩ := bnd hr
        refine C_RX8_102 hX (c_X8_firstOfHeight (by omega) hq3) (Nat.le_of_ble_eq_true rfl) dX8_stackAt_37 ?_
        refine V_istore_n hX dX8_stackAt_40 rfl (Nat.le_of_ble_eq_true rfl) rfl ?_
        refine V_iconst hX dX8_stackAt_41 ic_1 ?_
        refine V_istore hX dX8_stackAt_42 (Nat.le_of_ble_eq_true rfl) rfl ?_
        refine V_mask [true, true, true, true, true] ?_
        exact v_X8_stackAt_44 hd9 hX hE _ _ _ _ _ _ hr
      · rw [if_neg h23] at hr
        refine V_iconst hX dX8_stackAt_26 ic_m1 ?_
        cases hr
        exact V_iret hX hE rfl dX8_stackAt_27
    · rw [if_pos h16] at hr
      refine V_iload_n hX dX8_stackAt_19 rfl rfl ?_
      cases hr
      exact V_iret hX hE rfl dX8_stackAt_20
  · rw [if_neg h4] at hr
    refine V_iconst hX dX8_stackAt_7 ic_m1 ?_
    cases hr
    exact V_iret hX hE rfl dX8_stackAt_8
def f_X8_liesOverByOthers (p0 : Int32) (p1 : Int32) (w : Wd) : Option (Int32 × Wd) := Option.bind (f_X8_closeOver w) fun q1 =>
    Option.bind (f_X9_at 15 p0 q1) fun q2 =>
    Option.bind (f_X9_has q2.1 p1 q2.2) fun q3 =>
    if bo q3.1 then some (q3.1, q3.2) else none
set_option maxRecDepth 100000 in
set_option maxHeartbeats 4000000 in
theorem c_X8_liesOverByOthers {d : Nat} (hd9 : 3 ≤ d) {p0 : Int32} {p1 : Int32} {w : Wd} {r : (Int32 × Wd)} (hr : f_X8_liesOverByOthers p0 p1 w = some r) : Con d yX8_liesOverByOthers cX8_liesOverByOthers 3 (some .boolean) [.ref 12, .int p0, .int p1] w (some (.int r.1)) r.2 := by
  refine Con_of (by decide) (Nat.le_of_ble_eq_true rfl) (fun X hX hE => ?_)
  have hX : bOk cX8_liesOverByOthers 3 RX8 d X := hX
  show bV X 0 [some (.ref 12), some (.int p0), some (.int p1)] [] w
  obtain ⟨d, rfl⟩ : ∃ e, d = e + 1 := ⟨d - 1, by omega⟩
  unfold f_X8_liesOverByOthers at hr
  refine V_aload_n hX dX8_liesOverByOthers_0 rfl rfl ?_
  obtain ⟨q1, hq1, hr⟩ := bnd hr
  refine C_RX8_92 hX (c_X8_closeOver (by omega) hq1) (Nat.le_of_ble_eq_true rfl) dX8_liesOverByOthers_1 ?_
  refine V_aload_n hX dX8_liesOverByOthers_4 rfl rfl ?_
  refine G_RX8_18 hX dX8_liesOverByOthers_5 ?_
  refine V_iload_n hX dX8_liesOverByOthers_8 rfl rfl ?_
  obtain ⟨q2, hq2, hr⟩ := bnd hr
  refine C_RX8_28 hX (c_X9_at (by omega) hq2) (Nat.le_of_ble_eq_true rfl) dX8_liesOverByOthers_9 ?_
  refine V_iload_n hX dX8_liesOverByOthers_12 rfl rfl ?_
  obtain ⟨q3, hq3, hr⟩ := bnd hr
  refine C_RX8_72 hX (c_X9_has (by omega) hq3) (Nat.le_of_ble_eq_true rfl) dX8_liesOverByOthers_13 ?_
  obtain ⟨hbo, hr⟩ := ifn hr
  cases hr
  exact V_iret hX hE (bo_nar hbo) dX8_liesOverByOthers_16
