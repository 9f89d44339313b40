def f_X5_tell_81 (k33 : Int32 → Int32 → Int32 → Int32 → Wd → Option Wd) (s1 : Int32) (s2 : Int32) (x1 : Int32) (x4 : Int32) (x5 : Int32) (x6 : Int32) (w : Wd) : Option Wd := Option.bind (f_X9_put 22 s1 s2 w) fun q1 =>
    k33 x1 x4 x5 (x6 + 1) q1
def f_X5_tell_33 : Nat → Int32 → Int32 → Int32 → Int32 → Wd → Option Wd
  | 0, _, _, _, _, _ => none
  | n + 1, x1, x4, x5, x6, w => if 5 ≤ x6 then
        (Option.bind (f_X9_put 22 x1 x5 w) fun q1 =>
        some q1)
      else
        (Option.bind (f_X9_at 22 x6 w) fun q1 =>
        Option.bind (f_X9_has x5 x6 q1.2) fun q2 =>
        if q2.1 = 0 then
          (f_X5_tell_81 (f_X5_tell_33 n) x6 (q1.1 &&& (x4 ^^^ (-1))) x1 x4 x5 x6 q2.2)
        else
          (f_X5_tell_81 (f_X5_tell_33 n) x6 ((q1.1 &&& (x4 ^^^ (-1))) ||| x4) x1 x4 x5 x6 q2.2))
def f_X5_tell_19 (s0 : Int32) (x1 : Int32) (x2 : Int32) (x4 : Int32) (w : Wd) : Option Wd := Option.bind (f_X9_put 21 x1 x2 w) fun q1 =>
    f_X5_tell_33 fu x1 x4 s0 0 q1
def f_X5_tell (p0 : Int32) (p1 : Int32) (p2 : Int32) (w : Wd) : Option Wd := if p1 = 0 then
      (f_X5_tell_19 0 p0 p1 (jshl 1 p0) w)
    else
      (f_X5_tell_19 (p2 &&& ((jshl 1 p0) ^^^ (-1))) p0 p1 (jshl 1 p0) w)
set_option maxRecDepth 100000 in
set_option maxHeartbeats 4000000 in
theorem v_X5_tell_81 {d : Nat} (hd9 : 1 ≤ d) {X : bX} (hX : bOk cX5_tell 8 RX5 d X) {r : Wd} (hE : bEnd none none r X) {k33 : Int32 → Int32 → Int32 → Int32 → Wd → Option Wd} (hk33 : ∀ (x1 : Int32) (x4 : Int32) (x5 : Int32) (x6 : Int32) (w : Wd), k33 x1 x4 x5 x6 w = some r → bV X 33 [some (.ref 20), some (.int x1), none, none, some (.int x4), some (.int x5), some (.int x6), none] [] w) : ∀ (s1 : Int32) (s2 : Int32) (x1 : Int32) (x4 : Int32) (x5 : Int32) (x6 : Int32) (w : Wd), f_X5_tell_81 k33 s1 s2 x1 x4 x5 x6 w = some r → bV X 81 [some (.ref 20), some (.int x1), none, none, some (.int x4), some (.int x5), some (.int x6), none] [.int s2, .int s1, .ref 22] w := by
  intro s1 s2 x1 x4 x5 x6 w hr
  obtain ⟨d, rfl⟩ : ∃ e, d = e + 1 := ⟨d - 1, by omega⟩
  unfold f_X5_tell_81 at hr
  obtain ⟨q1, hq1, hr⟩ := bnd hr
  refine C_RX5_46 hX (c_X9_put (by omega) hq1) (Nat.le_of_ble_eq_true rfl) dX5_tell_81 ?_
  refine V_iinc hX dX5_tell_84 rfl (ii_1 _) (Nat.le_of_ble_eq_true rfl) rfl ?_
  refine V_goto (tgt := 33) hX dX5_tell_87 (by decide) ?_
  refine V_mask [true, true, false, false, true, true, true, false] ?_
  exact hk33 _ _ _ _ _ hr
set_option maxRecDepth 100000 in
set_option maxHeartbeats 4000000 in
theorem v_X5_tell_33 {d : Nat} (hd9 : 1 ≤ d) {X : bX} (hX : bOk cX5_tell 8 RX5 d X) {r : Wd} (hE : bEnd none none r X) : ∀ (n : Nat) (x1 : Int32) (x4 : Int32) (x5 : Int32) (x6 : Int32) (w : Wd), f_X5_tell_33 n x1 x4 x5 x6 w = some r → bV X 33 [some (.ref 20), some (.int x1), none, none, some (.int x4), some (.int x5), some (.int x6), none] [] w := by
  obtain ⟨d, rfl⟩ : ∃ e, d = e + 1 := ⟨d - 1, by omega⟩
  intro n
  induction n with
  | zero => intro x1 x4 x5 x6 w hr; exact absurd hr (by simp [f_X5_tell_33])
  | succ n ih =>
    intro x1 x4 x5 x6 w hr
    rw [f_X5_tell_33] at hr
    refine V_iload hX dX5_tell_33 rfl ?_
    refine V_iconst hX dX5_tell_35 ic_5 ?_
    refine V_icmp_ge (tgt := 90) hX dX5_tell_36 (by decide) (fun h36 => ?_) (fun h36 => ?_)
    · rw [if_pos h36] at hr
      refine V_aload_n hX dX5_tell_90 rfl rfl ?_
      refine G_RX5_15 hX dX5_tell_91 ?_
      refine V_iload_n hX dX5_tell_94 rfl rfl ?_
      refine V_iload hX dX5_tell_95 rfl ?_
      obtain ⟨q1, hq1, hr⟩ := bnd hr
      refine C_RX5_46 hX (c_X9_put (by omega) hq1) (Nat.le_of_ble_eq_true rfl) dX5_tell_97 ?_
      cases hr
      exact V_vret hX hE dX5_tell_100
    · rw [if_neg h36] at hr
      refine V_aload_n hX dX5_tell_39 rfl rfl ?_
      refine G_RX5_15 hX dX5_tell_40 ?_
      refine V_iload hX dX5_tell_43 rfl ?_
      obtain ⟨q1, hq1, hr⟩ := bnd hr
      refine C_RX5_42 hX (c_X9_at (by omega) hq1) (Nat.le_of_ble_eq_true rfl) dX5_tell_45 ?_
      refine V_iload hX dX5_tell_48 rfl ?_
      refine V_iconst hX dX5_tell_50 ic_m1 ?_
      refine V_ixor hX dX5_tell_51 ?_
      refine V_iand hX dX5_tell_52 ?_
      refine V_istore hX dX5_tell_53 (Nat.le_of_ble_eq_true rfl) rfl ?_
      refine V_aload_n hX dX5_tell_55 rfl rfl ?_
      refine G_RX5_15 hX dX5_tell_56 ?_
      refine V_iload hX dX5_tell_59 rfl ?_
      refine V_iload hX dX5_tell_61 rfl ?_
      refine V_iload hX dX5_tell_63 rfl ?_
      obtain ⟨q2, hq2, hr⟩ := bnd hr
      refine C_RX5_50 hX (c_X9_has (by omega) hq2) (Nat.le_of_ble_eq_true rfl) dX5_tell_65 ?_
      refine V_if_eq (tgt := 79) hX dX5_tell_68 (by decide) (fun h68 => ?_) (fun h68 => ?_)
      · rw [if_pos h68] at hr
        refine V_iload hX dX5_tell_79 rfl ?_
        refine V_mask [true, true, false, false, true, true, true, false] ?_
        exact v_X5_tell_81 hd9 hX hE ih _ _ _ _ _ _ _ hr
      · rw [if_neg h68] at hr
        refine V_iload hX dX5_tell_71 rfl ?_
        refine V_iload hX dX5_tell_73 rfl ?_
        refine V_ior hX dX5_tell_75 ?_
        refine V_goto (tgt := 81) hX dX5_tell_76 (by decide) ?_
        refine V_mask [true, true, false, false, true, true, true, false] ?_
        exact v_X5_tell_81 hd9 hX hE ih _ _ _ _ _ _ _ hr
set_option maxRecDepth 100000 in
set_option maxHeartbeats 4000000 in
theorem v_X5_tell_19 {d : Nat} (hd9 : 1 ≤ d) {X : bX} (hX : bOk cX5_tell 8 RX5 d X) {r : Wd} (hE : bEnd none none r X) : ∀ (s0 : Int32) (x1 : Int32) (x2 : Int32) (x4 : Int32) (w : Wd), f_X5_tell_19 s0 x1 x2 x4 w = some r → bV X 19 [some (.ref 20), some (.int x1), some (.int x2), none, some (.int x4), none, none, none] [.int s0] w := by
  intro s0 x1 x2 x4 w hr
  obtain ⟨d, rfl⟩ : ∃ e, d = e + 1 := ⟨d - 1, by omega⟩
  unfold f_X5_tell_19 at hr
  refine V_istore hX dX5_tell_19 (Nat.le_of_ble_eq_true rfl) rfl ?_
  refine V_aload_n hX dX5_tell_21 rfl rfl ?_
  refine G_RX5_11 hX dX5_tell_22 ?_
  refine V_iload_n hX dX5_tell_25 rfl rfl ?_
  refine V_iload_n hX dX5_tell_26 rfl rfl ?_
  obtain ⟨q1, hq1, hr⟩ := bnd hr
  refine C_RX5_46 hX (c_X9_put (by omega) hq1) (Nat.le_of_ble_eq_true rfl) dX5_tell_27 ?_
  refine V_iconst hX dX5_tell_30 ic_0 ?_
  refine V_istore hX dX5_tell_31 (Nat.le_of_ble_eq_true rfl) rfl ?_
  refine V_mask [true, true, false, false, true, true, true, false] ?_
  exact v_X5_tell_33 hd9 hX hE _ _ _ _ _ _ hr
set_option maxRecDepth 100000 in
set_option maxHeartbeats 4000000 in
theorem c_X5_tell {d : Nat} (hd9 : 1 ≤ d) {p0 : Int32} {p1 : Int32} {p2 : Int32} {w : Wd} {r : Wd} (hr : f_X5_tell p0 p1 p2 w = some r) : Con d yX5_tell cX5_tell 8 none [.ref 20, .int p0, .int p1, .int p2] w none r := by
  refine Con_of (by decide) (Nat.le_of_ble_eq_true rfl) (fun X hX hE => ?_)
  have hX : bOk cX5_tell 8 RX5 d X := hX
  show bV X 0 [some (.ref 20), some (.int p0), some (.int p1), some (.int p2), none, none, none, none] [] w
  obtain ⟨d, rfl⟩ : ∃ e, d = e + 1 := ⟨d - 1, by omega⟩
  unfold f_X5_tell at hr
  refine V_iconst hX dX5_tell_0 ic_1 ?_
  refine V_iload_n hX dX5_tell_1 rfl rfl ?_
  refine V_ishl hX dX5_tell_2 ?_
  refine V_istore hX dX5_tell_3 (Nat.le_of_ble_eq_true rfl) rfl ?_
  refine V_iload_n hX dX5_tell_5 rfl rfl ?_
  refine V_if_ne (tgt := 13) hX dX5_tell_6 (by decide) (fun h6 => ?_) (fun h6 => ?_)
  · rw [if_neg h6] at hr
    refine V_iload_n hX dX5_tell_13 rfl rfl ?_
    refine V_iload hX dX5_tell_14 rfl ?_
    refine V_iconst hX dX5_tell_16 ic_m1 ?_
    refine V_ixor hX dX5_tell_17 ?_
    refine V_iand hX dX5_tell_18 ?_
    refine V_mask [true, true, true, false, true, false, false, false] ?_
    exact v_X5_tell_19 hd9 hX hE _ _ _ _ _ hr
  · rw [if_pos h6] at hr
    refine V_iconst hX dX5_tell_9 ic_0 ?_
    refine V_goto (tgt := 19) hX dX5_tell_10 (by decide) ?_
    refine V_mask [true, true, true, false, true, false, false, false] ?_
    exact v_X5_tell_19 hd9 hX hE _ _ _ _ _ hr
def f_X5_isTold (p0 : Int32) (w : Wd) : Option (Int32 × Wd) := Option.bind (f_X9_at 21 p0 w) fun q1 =>
    if q1.1 ≤ 0 then
      (some (0, q1.2))
    else
      (some (1, q1.2))
set_option maxRecDepth 100000 in
set_option maxHeartbeats 4000000 in
theorem c_X5_isTold {d : Nat} (hd9 : 1 ≤ d) {p0 : Int32} {w : Wd} {r : (Int32 × Wd)} (hr : f_X5_isTold p0 w = some r) : Con d yX5_isTold cX5_isTold 2 (some .boolean) [.ref 20, .int p0] w (some (.int r.1)) r.2 := by
  refine Con_of (by decide) (Nat.le_of_ble_eq_true rfl) (fun X hX hE => ?_)
  have hX : bOk cX5_isTold 2 RX5 d X := hX
  show bV X 0 [some (.ref 20), some (.int p0)] [] w
  obtain ⟨d, rfl⟩ : ∃ e, d = e + 1 := ⟨d - 1, by omega⟩
  unfold f_X5_isTold at hr
  refine V_aload_n hX dX5_isTold_0 rfl rfl ?_
  refine G_RX5_11 hX dX5_isTold_1 ?_
  refine V_iload_n hX dX5_isTold_4 rfl rfl ?_
  obtain ⟨q1, hq1, hr⟩ := bnd hr
  refine C_RX5_42 hX (c_X9_at (by omega) hq1) (Nat.le_of_ble_eq_true rfl) dX5_isTold_5 ?_
  refine V_if_le (tgt := 15) hX dX5_isTold_8 (by decide) (fun h8 => ?_) (fun h8 => ?_)
  · rw [if_pos h8] at hr
    refine V_iconst hX dX5_isTold_15 ic_0 ?_
    cases hr
    exact V_iret hX hE rfl dX5_isTold_16
  · rw [if_neg h8] at hr
    refine V_iconst hX dX5_isTold_11 ic_1 ?_
    refine V_goto (tgt := 16) hX dX5_isTold_12 (by decide) ?_
    cases hr
    exact V_iret hX hE rfl dX5_isTold_16
def f_X5_answer (p0 : Int32) (w : Wd) : Option (Int32 × Wd) := if p0 = (-1) then
      (some ((w.1 20 7), w))
    else
      (if (w.1 20 7) = 0 then
        (some ((-1), w))
      else
        (if p0 = (-2) then
          (some ((w.1 20 8), w))
        else
          (Option.bind (f_X5_isTold p0 w) fun q1 =>
          if q1.1 = 0 then
            (some ((-1), q1.2))
          else
            (Option.bind (f_X9_at 26 p0 q1.2) fun q2 =>
            some (q2.1, q2.2)))))
set_option maxRecDepth 100000 in
set_option maxHeartbeats 4000000 in
theorem c_X5_answer {d : Nat} (hd9 : 2 ≤ d) {p0 : Int32} {w : Wd} {r : (Int32 × Wd)} (hr : f_X5_answer p0 w = some r) : Con d yX5_answer cX5_answer 2 (some .int) [.ref 20, .int p0] w (some (.int r.1)) r.2 := by
  refine Con_of (by decide) (Nat.le_of_ble_eq_true rfl) (fun X hX hE => ?_)
  have hX : bOk cX5_answer 2 RX5 d X := hX
  show bV X 0 [some (.ref 20), some (.int p0)] [] w
  obtain ⟨d, rfl⟩ : ∃ e, d = e + 1 := ⟨d - 1, by omega⟩
  unfold f_X5_answer at hr
  refine V_iload_n hX dX5_answer_0 rfl rfl ?_
  refine V_iconst hX dX5_answer_1 ic_m1 ?_
  refine V_icmp_ne (tgt := 10) hX dX5_answer_2 (by decide) (fun h2 => ?_) (fun h2 => ?_)
  · rw [if_neg h2] at hr
    refine V_aload_n hX dX5_answer_10 rfl rfl ?_
    refine G_RX5_54 hX dX5_answer_11 ?_
    refine V_if_ne (tgt := 19) hX dX5_answer_14 (by decide) (fun h14 => ?_) (fun h14 => ?_)
    · rw [if_neg h14] at hr
      refine V_iload_n hX dX5_answer_19 rfl rfl ?_
      refine V_bipush hX dX5_answer_20 bp_m2 ?_
      refine V_icmp_ne (tgt := 30) hX dX5_answer_22 (by decide) (fun h22 => ?_) (fun h22 => ?_)
      · rw [if_neg h22] at hr
        refine V_aload_n hX dX5_answer_30 rfl rfl ?_
        refine V_iload_n hX dX5_answer_31 rfl rfl ?_
        obtain ⟨q1, hq1, hr⟩ := bnd hr
        refine C_RX5_34 hX (c_X5_isTold (by omega) hq1) (Nat.le_of_ble_eq_true rfl) dX5_answer_32 ?_
        refine V_if_eq (tgt := 49) hX dX5_answer_35 (by decide) (fun h35 => ?_) (fun h35 => ?_)
        · rw [if_pos h35] at hr
          refine V_iconst hX dX5_answer_49 ic_m1 ?_
          cases hr
          exact V_iret hX hE rfl dX5_answer_50
        · rw [if_neg h35] at hr
          refine V_aload_n hX dX5_answer_38 rfl rfl ?_
          refine G_RX5_27 hX dX5_answer_39 ?_
          refine V_iload_n hX dX5_answer_42 rfl rfl ?_
          obtain ⟨q2, hq2, hr⟩ := bnd hr
          refine C_RX5_42 hX (c_X9_at (by omega) hq2) (Nat.le_of_ble_eq_true rfl) dX5_answer_43 ?_
          refine V_goto (tgt := 50) hX dX5_answer_46 (by decide) ?_
          cases hr
          exact V_iret hX hE rfl dX5_answer_50
      · rw [if_pos h22] at hr
        refine V_aload_n hX dX5_answer_25 rfl rfl ?_
        refine G_RX5_58 hX dX5_answer_26 ?_
        cases hr
        exact V_iret hX hE rfl dX5_answer_29
    · rw [if_pos h14] at hr
      refine V_iconst hX dX5_answer_17 ic_m1 ?_
      cases hr
      exact V_iret hX hE rfl dX5_answer_18
  · rw [if_pos h2] at hr
    refine V_aload_n hX dX5_answer_5 rfl rfl ?_
    refine G_RX5_54 hX dX5_answer_6 ?_
    cases hr
    exact V_iret hX hE rfl dX5_answer_9
def f_X5_difference (p0 : Int32) (p1 : Int32) (w : Wd) : Option (Int32 × Wd) := Option.bind (f_X9_at 21 p0 w) fun q1 =>
    Option.bind (f_X0_part p1 3 q1.2) fun q2 =>
    some ((jabs (q1.1 - q2.1)), q2.2)
set_option maxRecDepth 100000 in
set_option maxHeartbeats 4000000 in
theorem c_X5_difference {d : Nat} (hd9 : 2 ≤ d) {p0 : Int32} {p1 : Int32} {w : Wd} {r : (Int32 × Wd)} (hr : f_X5_difference p0 p1 w = some r) : Con d yX5_difference cX5_difference 3 (some .int) [.ref 20, .int p0, .int p1] w (some (.int r.1)) r.2 := by
  refine Con_of (by decide) (Nat.le_of_ble_eq_true rfl) (fun X hX hE => ?_)
  have hX : bOk cX5_difference 3 RX5 d X := hX
  show bV X 0 [some (.ref 20), some (.int p0), some (.int p1)] [] w
  obtain ⟨d, rfl⟩ : ∃ e, d = e + 1 := ⟨d - 1, by omega⟩
  unfold f_X5_difference at hr
  refine V_aload_n hX dX5_difference_0 rfl rfl ?_
  refine G_RX5_11 hX dX5_difference_1 ?_
  refine V_iload_n hX dX5_difference_4 rfl rfl ?_
  obtain ⟨q1, hq1, hr⟩ := bnd hr
  refine C_RX5_42 hX (c_X9_at (by omega) hq1) (Nat.le_of_ble_eq_true rfl) dX5_difference_5 ?_
  refine V_aload_n hX dX5_difference_8 rfl rfl ?_
  refine G_RX5_30 hX dX5_difference_9 ?_
  refine V_iload_n hX dX5_difference_12 rfl rfl ?_
  refine V_iconst hX dX5_difference_13 ic_3 ?_
  obtain ⟨q2, hq2, hr⟩ := bnd hr
  refine C_RX5_83 hX (c_X0_part (by omega) hq2) (Nat.le_of_ble_eq_true rfl) dX5_difference_14 ?_
  refine V_isub hX dX5_difference_17 ?_
  refine V_mabs hX mt_RX5_88 (by omega) (Nat.le_of_ble_eq_true rfl) dX5_difference_18 ?_
  cases hr
  exact V_iret hX hE rfl dX5_difference_21
def f_X5_keepIfBetter_33 : Nat → Int32 → Wd → Option Wd
  | 0, _, _ => none
  | n + 1, x2, w => if 5 ≤ x2 then
        (some w)
      else
        (Option.bind (f_X9_at 25 x2 w) fun q1 =>
        Option.bind (f_X9_put 26 x2 q1.1 q1.2) fun q2 =>
        f_X5_keepIfBetter_33 n (x2 + 1) q2)
def f_X5_keepIfBetter_26 (x1 : Int32) (w : Wd) : Option Wd := f_X5_keepIfBetter_33 fu 0 (wS w 20 8 x1)
def f_X5_keepIfBetter (p0 : Int32) (w : Wd) : Option Wd := if ((wS w 20 7 ((w.1 20 7) + 1)).1 20 7) = 1 then
      (f_X5_keepIfBetter_26 p0 (wS w 20 7 ((w.1 20 7) + 1)))
    else
      (if ((wS w 20 7 ((w.1 20 7) + 1)).1 20 8) ≤ p0 then
        (some (wS w 20 7 ((w.1 20 7) + 1)))
      else
        (f_X5_keepIfBetter_26 p0 (wS w 20 7 ((w.1 20 7) + 1))))
set_option maxRecDepth 100000 in
set_option maxHeartbeats 4000000 in
theorem v_X5_keepIfBetter_33 {d : Nat} (hd9 : 1 ≤ d) {X : bX} (hX : bOk cX5_keepIfBetter 3 RX5 d X) {r : Wd} (hE : bEnd none none r X) : ∀ (n : Nat) (x2 : Int32) (w : Wd), f_X5_keepIfBetter_33 n x2 w = some r → bV X 33 [some (.ref 20), none, some (.int x2)] [] w := by
  obtain ⟨d, rfl⟩ : ∃ e, d = e + 1 := ⟨d - 1, by omega⟩
  intro n
  induction n with
  | zero => intro x2 w hr; exact absurd hr (by simp [f_X5_keepIfBetter_33])
  | succ n ih =>
    intro x2 w hr
    rw [f_X5_keepIfBetter_33] at hr
    refine V_iload_n hX dX5_keepIfBetter_33 rfl rfl ?_
    refine V_iconst hX dX5_keepIfBetter_34 ic_5 ?_
    refine V_icmp_ge (tgt := 60) hX dX5_keepIfBetter_35 (by decide) (fun h35 => ?_) (fun h35 => ?_)
    · rw [if_pos h35] at hr
      cases hr
      exact V_vret hX hE dX5_keepIfBetter_60
    · rw [if_neg h35] at hr
      refine V_aload_n hX dX5_keepIfBetter_38 rfl rfl ?_
      refine G_RX5_27 hX dX5_keepIfBetter_39 ?_
      refine V_iload_n hX dX5_keepIfBetter_42 rfl rfl ?_
      refine V_aload_n hX dX5_keepIfBetter_43 rfl rfl ?_
      refine G_RX5_24 hX dX5_keepIfBetter_44 ?_
      refine V_iload_n hX dX5_keepIfBetter_47 rfl rfl ?_
      obtain ⟨q1, hq1, hr⟩ := bnd hr
      refine C_RX5_42 hX (c_X9_at (by omega) hq1) (Nat.le_of_ble_eq_true rfl) dX5_keepIfBetter_48 ?_
      obtain ⟨q2, hq2, hr⟩ := bnd hr
      refine C_RX5_46 hX (c_X9_put (by omega) hq2) (Nat.le_of_ble_eq_true rfl) dX5_keepIfBetter_51 ?_
      refine V_iinc hX dX5_keepIfBetter_54 rfl (ii_1 _) (Nat.le_of_ble_eq_true rfl) rfl ?_
      refine V_goto (tgt := 33) hX dX5_keepIfBetter_57 (by decide) ?_
      refine V_mask [true, false, true] ?_
      exact ih _ _ hr
set_option maxRecDepth 100000 in
set_option maxHeartbeats 4000000 in
theorem v_X5_keepIfBetter_26 {d : Nat} (hd9 : 1 ≤ d) {X : bX} (hX : bOk cX5_keepIfBetter 3 RX5 d X) {r : Wd} (hE : bEnd none none r X) : ∀ (x1 : Int32) (w : Wd), f_X5_keepIfBetter_26 x1 w = some r → bV X 26 [some (.ref 20), some (.int x1), none] [] w := by
  intro x1 w hr
  obtain ⟨d, rfl⟩ : ∃ e, d = e + 1 := ⟨d - 1, by omega⟩
  unfold f_X5_keepIfBetter_26 at hr
  refine V_aload_n hX dX5_keepIfBetter_26 rfl rfl ?_
  refine V_iload_n hX dX5_keepIfBetter_27 rfl rfl ?_
  refine P_RX5_58 hX dX5_keepIfBetter_28 ?_
  refine V_iconst hX dX5_keepIfBetter_31 ic_0 ?_
  refine V_istore_n hX dX5_keepIfBetter_32 rfl (Nat.le_of_ble_eq_true rfl) rfl ?_
  refine V_mask [true, false, true] ?_
  exact v_X5_keepIfBetter_33 hd9 hX hE _ _ _ hr
set_option maxRecDepth 100000 in
set_option maxHeartbeats 4000000 in
theorem c_X5_keepIfBetter {d : Nat} (hd9 : 1 ≤ d) {p0 : Int32} {w : Wd} {r : Wd} (hr : f_X5_keepIfBetter p0 w = some r) : Con d yX5_keepIfBetter cX5_keepIfBetter 3 none [.ref 20, .int p0] w none r := by
  refine Con_of (by decide) (Nat.le_of_ble_eq_true rfl) (fun X hX hE => ?_)
  have hX : bOk cX5_keepIfBetter 3 RX5 d X := hX
  show bV X 0 [some (.ref 20), some (.int p0), none] [] w
  obtain ⟨d, rfl⟩ : ∃ e, d = e + 1 := ⟨d - 1, by omega⟩
  unfold f_X5_keepIfBetter at hr
  refine V_aload_n hX dX5_keepIfBetter_0 rfl rfl ?_
  refine V_dup hX dX5_keepIfBetter_1 rfl ?_
  refine G_RX5_54 hX dX5_keepIfBetter_2 ?_
  refine V_iconst hX dX5_keepIfBetter_5 ic_1 ?_
  refine V_iadd hX dX5_keepIfBetter_6 ?_
  refine P_RX5_54 hX dX5_keepIfBetter_7 ?_
  refine V_aload_n hX dX5_keepIfBetter_10 rfl rfl ?_
  refine G_RX5_54 hX dX5_keepIfBetter_11 ?_
  refine V_iconst hX dX5_keepIfBetter_14 ic_1 ?_
  refine V_icmp_eq (tgt := 26) hX dX5_keepIfBetter_15 (by decide) (fun h15 => ?_) (fun h15 => ?_)
  · rw [if_pos h15] at hr
    refine V_mask [true, true, false] ?_
    exact v_X5_keepIfBetter_26 hd9 hX hE _ _ hr
  · rw [if_neg h15] at hr
    refine V_iload_n hX dX5_keepIfBetter_18 rfl rfl ?_
    refine V_aload_n hX dX5_keepIfBetter_19 rfl rfl ?_
    refine G_RX5_58 hX dX5_keepIfBetter_20 ?_
    refine V_icmp_ge (tgt := 60) hX dX5_keepIfBetter_23 (by decide) (fun h23 => ?_) (fun h23 => ?_)
    · rw [if_pos h23] at hr
      cases hr
      exact V_vret hX hE dX5_keepIfBetter_60
    · rw [if_neg h23] at hr
      refine V_mask [true, true, false] ?_
      exact v_X5_keepIfBetter_26 hd9 hX hE _ _ hr
def f_X5_openTo_11 : Nat → Int32 → Int32 → Int32 → Wd → Option (Int32 × Wd)
  | 0, _, _, _, _ => none
  | n + 1, x1, x2, x3, w => if x1 ≤ x3 then
        (some (x2, w))
      else
        (Option.bind (f_X5_isTold x3 w) fun q1 =>
        if q1.1 = 0 then
          (f_X5_openTo_11 n x1 x2 (x3 + 1) q1.2)
        else
          (Option.bind (f_X9_at 22 x1 q1.2) fun q2 =>
          Option.bind (f_X9_has q2.1 x3 q2.2) fun q3 =>
          if q3.1 = 0 then
            (f_X5_openTo_11 n x1 x2 (x3 + 1) q3.2)
          else
            (Option.bind (f_X9_at 25 x3 q3.2) fun q4 =>
            Option.bind (f_X9_at 24 q4.1 q4.2) fun q5 =>
            f_X5_openTo_11 n x1 (x2 &&& q5.1) (x3 + 1) q5.2)))
def f_X5_openTo (p0 : Int32) (w : Wd) : Option (Int32 × Wd) := Option.bind (f_X9_at 23 p0 w) fun q1 =>
    f_X5_openTo_11 fu p0 q1.1 0 q1.2
set_option maxRecDepth 100000 in
set_option maxHeartbeats 4000000 in
theorem v_X5_openTo_11 {d : Nat} (hd9 : 2 ≤ d) {X : bX} (hX : bOk cX5_openTo 4 RX5 d X) {r : (Int32 × Wd)} (hE : bEnd (some .int) (some (.int r.1)) r.2 X) : ∀ (n : Nat) (x1 : Int32) (x2 : Int32) (x3 : Int32) (w : Wd), f_X5_openTo_11 n x1 x2 x3 w = some r → bV X 11 [some (.ref 20), some (.int x1), some (.int x2), some (.int x3)] [] w := by
  obtain ⟨d, rfl⟩ : ∃ e, d = e + 1 := ⟨d - 1, by omega⟩
  intro n
  induction n with
  | zero => intro x1 x2 x3 w hr; exact absurd hr (by simp [f_X5_openTo_11])
  | succ n ih =>
    intro x1 x2 x3 w hr
    rw [f_X5_openTo_11] at hr
    refine V_iload_n hX dX5_openTo_11 rfl rfl ?_
    refine V_iload_n hX dX5_openTo_12 rfl rfl ?_
    refine V_icmp_ge (tgt := 63) hX dX5_openTo_13 (by decide) (fun h13 => ?_) (fun h13 => ?_)
    · rw [if_pos h13] at hr
      refine V_iload_n hX dX5_openTo_63 rfl rfl ?_
      cases hr
      exact V_iret hX hE rfl dX5_openTo_64
    · rw [if_neg h13] at hr
      refine V_aload_n hX dX5_openTo_16 rfl rfl ?_
      refine V_iload_n hX dX5_openTo_17 rfl rfl ?_
      obtain ⟨q1, hq1, hr⟩ := bnd hr
      refine C_RX5_34 hX (c_X5_isTold (by omega) hq1) (Nat.le_of_ble_eq_true rfl) dX5_openTo_18 ?_
      refine V_if_eq (tgt := 57) hX dX5_openTo_21 (by decide) (fun h21 => ?_) (fun h21 => ?_)
      · rw [if_pos h21] at hr
        refine V_iinc hX dX5_openTo_57 rfl (ii_1 _) (Nat.le_of_ble_eq_true rfl) rfl ?_
        refine V_goto (tgt := 11) hX dX5_openTo_60 (by decide) ?_
        refine V_mask [true, true, true, true] ?_
        exact ih _ _ _ _ hr
      · rw [if_neg h21] at hr
        refine V_aload_n hX dX5_openTo_24 rfl rfl ?_
        refine G_RX5_15 hX dX5_openTo_25 ?_
        refine V_iload_n hX dX5_openTo_28 rfl rfl ?_
        obtain ⟨q2, hq2, hr⟩ := bnd hr
        refine C_RX5_42 hX (c_X9_at (by omega) hq2) (Nat.le_of_ble_eq_true rfl) dX5_openTo_29 ?_
        refine V_iload_n hX dX5_openTo_32 rfl rfl ?_
        obtain ⟨q3, hq3, hr⟩ := bnd hr
        refine C_RX5_50 hX (c_X9_has (by omega) hq3) (Nat.le_of_ble_eq_true rfl) dX5_openTo_33 ?_
        refine V_if_eq (tgt := 57) hX dX5_openTo_36 (by decide) (fun h36 => ?_) (fun h36 => ?_)
        · rw [if_pos h36] at hr
          refine V_iinc hX dX5_openTo_57 rfl (ii_1 _) (Nat.le_of_ble_eq_true rfl) rfl ?_
          refine V_goto (tgt := 11) hX dX5_openTo_60 (by decide) ?_
          refine V_mask [true, true, true, true] ?_
          exact ih _ _ _ _ hr
        · rw [if_neg h36] at hr
          refine V_iload_n hX dX5_openTo_39 rfl rfl ?_
          refine V_aload_n hX dX5_openTo_40 rfl rfl ?_
          refine G_RX5_21 hX dX5_openTo_41 ?_
          refine V_aload_n hX dX5_openTo_44 rfl rfl ?_
          refine G_RX5_24 hX dX5_openTo_45 ?_
          refine V_iload_n hX dX5_openTo_48 rfl rfl ?_
          obtain ⟨q4, hq4, hr⟩ := bnd hr
          refine C_RX5_42 hX (c_X9_at (by omega) hq4) (Nat.le_of_ble_eq_true rfl) dX5_openTo_49 ?_
          obtain ⟨q5, hq5, hr⟩ := bnd hr
          refine C_RX5_42 hX (c_X9_at (by omega) hq5) (Nat.le_of_ble_eq_true rfl) dX5_openTo_52 ?_
          refine V_iand hX dX5_openTo_55 ?_
          refine V_istore_n hX dX5_openTo_56 rfl (Nat.le_of_ble_eq_true rfl) rfl ?_
          refine V_iinc hX dX5_openTo_57 rfl (ii_1 _) (Nat.le_of_ble_eq_true rfl) rfl ?_
          refine V_goto (tgt := 11) hX dX5_openTo_60 (by decide) ?_
          refine V_mask [true, true, true, true] ?_
          exact ih _ _ _ _ hr
set_option maxRecDepth 100000 in
set_option maxHeartbeats 4000000 in
theorem c_X5_openTo {d : Nat} (hd9 : 2 ≤ d) {p0 : Int32} {w : Wd} {r : (Int32 × Wd)} (hr : f_X5_openTo p0 w = some r) : Con d yX5_openTo cX5_openTo 4 (some .int) [.ref 20, .int p0] w (some (.int r.1)) r.2 := by
  refine Con_of (by decide) (Nat.le_of_ble_eq_true rfl) (fun X hX hE => ?_)
  have hX : bOk cX5_openTo 4 RX5 d X := hX
  show bV X 0 [some (.ref 20), some (.int p0), none, none] [] w
  obtain ⟨d, rfl⟩ : ∃ e, d = e + 1 := ⟨d - 1, by omega⟩
  unfold f_X5_openTo at hr
  refine V_aload_n hX dX5_openTo_0 rfl rfl ?_
  refine G_RX5_18 hX dX5_openTo_1 ?_
  refine V_iload_n hX dX5_openTo_4 rfl rfl ?_
  obtain ⟨q1, hq1, hr⟩ := bnd hr
  refine C_RX5_42 hX (c_X9_at (by omega) hq1) (Nat.le_of_ble_eq_true rfl) dX5_openTo_5 ?_
  refine V_istore_n hX dX5_openTo_8 rfl (Nat.le_of_ble_eq_true rfl) rfl ?_
  refine V_iconst hX dX5_openTo_9 ic_0 ?_
  refine V_istore_n hX dX5_openTo_10 rfl (Nat.le_of_ble_eq_true rfl) rfl ?_
  refine V_mask [true, true, true, true] ?_
  exact v_X5_openTo_11 hd9 hX hE _ _ _ _ _ hr
def f_X5_giveFrom_43 (rc : Int32 → Int32 → Int32 → Wd → Option Wd) : Nat → Int32 → Int32 → Int32 → Int32 → Int32 → Wd → Option Wd
  | 0, _, _, _, _, _, _ => none
  | n + 1, x1, x2, x3, x4, x5, w => if 8 ≤ x5 then
        (some w)
      else
        (Option.bind (f_X9_has x4 x5 w) fun q1 =>
        if q1.1 = 0 then
          (f_X5_giveFrom_43 rc n x1 x2 x3 x4 (x5 + 1) q1.2)
        else
          (Option.bind (f_X9_put 25 x1 x5 q1.2) fun q2 =>
          Option.bind (f_X5_difference x1 x5 q2) fun q3 =>
          Option.bind (rc (x1 + 1) (x2 ||| (jshl 1 x5)) (x3 + q3.1) q3.2) fun q4 =>
          f_X5_giveFrom_43 rc n x1 x2 x3 x4 (x5 + 1) q4))
def f_X5_giveFrom_r (rc : Int32 → Int32 → Int32 → Wd → Option Wd) (p1 : Int32) (p2 : Int32) (p3 : Int32) (w : Wd) : Option Wd := if p1 < 5 then
      (Option.bind (f_X5_isTold p1 w) fun q1 =>
      if q1.1 = 0 then
        (Option.bind (rc (p1 + 1) p2 p3 q1.2) fun q2 =>
        some q2)
      else
        (Option.bind (f_X5_openTo p1 q1.2) fun q2 =>
        f_X5_giveFrom_43 rc fu p1 p2 p3 (q2.1 &&& (p2 ^^^ (-1))) 0 q2.2))
    else
      (Option.bind (f_X5_keepIfBetter p3 w) fun q1 =>
      some q1)
def f_X5_giveFrom_n : Nat → Int32 → Int32 → Int32 → Wd → Option Wd
  | 0, _, _, _, _ => none
  | n + 1, p1, p2, p3, w => f_X5_giveFrom_r (f_X5_giveFrom_n n) p1 p2 p3 w
/-- as called from without: the recursion goes no deeper -/
def f_X5_giveFrom (p1 : Int32) (p2 : Int32) (p3 : Int32) (w : Wd) : Option Wd := f_X5_giveFrom_n 6 p1 p2 p3 w
set_option maxRecDepth 100000 in
set_option maxHeartbeats 4000000 in
theorem v_X5_giveFrom_43 {d : Nat} (hd9 : 3 ≤ d) {X : bX} (hX : bOk cX5_giveFrom 7 RX5 d X) {r : Wd} (hE : bEnd none none r X) {rc : Int32 → Int32 → Int32 → Wd → Option Wd} (hrc : ∀ (e : Nat), d = e + 1 → ∀ {p1 : Int32} {p2 : Int32} {p3 : Int32} {w : Wd} {q : Wd}, rc p1 p2 p3 w = some q → Con e yX5_giveFrom cX5_giveFrom 7 none [.ref 20, .int p1, .int p2, .int p3] w none q) : ∀ (n : Nat) (x1 : Int32) (x2 : Int32) (x3 : Int32) (x4 : Int32) (x5 : Int32) (w : Wd), f_X5_giveFrom_43 rc n x1 x2 x3 x4 x5 w = some r → bV X 43 [some (.ref 20), some (.int x1), some (.int x2), some (.int x3), some (.int x4), some (.int x5), none] [] w := by
  obtain ⟨d, rfl⟩ : ∃ e, d = e + 1 := ⟨d - 1, by omega⟩
  intro n
  induction n with
  | zero => intro x1 x2 x3 x4 x5 w hr; exact absurd hr (by simp [f_X5_giveFrom_43])
  | succ n ih =>
    intro x1 x2 x3 x4 x5 w hr
    rw [f_X5_giveFrom_43] at hr
    refine V_iload hX dX5_giveFrom_43 rfl ?_
    refine V_bipush hX dX5_giveFrom_45 bp_8 ?_
    refine V_icmp_ge (tgt := 102) hX dX5_giveFrom_47 (by decide) (fun h47 => ?_) (fun h47 => ?_)
    · rw [if_pos h47] at hr
      cases hr
      exact V_vret hX hE dX5_giveFrom_102
    · rw [if_neg h47] at hr
      refine V_iload hX dX5_giveFrom_50 rfl ?_
      refine V_iload hX dX5_giveFrom_52 rfl ?_
      obtain ⟨q1, hq1, hr⟩ := bnd hr
      refine C_RX5_50 hX (c_X9_has (by omega) hq1) (Nat.le_of_ble_eq_true rfl) dX5_giveFrom_54 ?_
      refine V_if_eq (tgt := 96) hX dX5_giveFrom_57 (by decide) (fun h57 => ?_) (fun h57 => ?_)
      · rw [if_pos h57] at hr
        refine V_iinc hX dX5_giveFrom_96 rfl (ii_1 _) (Nat.le_of_ble_eq_true rfl) rfl ?_
        refine V_goto (tgt := 43) hX dX5_giveFrom_99 (by decide) ?_
        refine V_mask [true, true, true, true, true, true, false] ?_
        exact ih _ _ _ _ _ _ hr
      · rw [if_neg h57] at hr
        refine V_aload_n hX dX5_giveFrom_60 rfl rfl ?_
        refine G_RX5_24 hX dX5_giveFrom_61 ?_
        refine V_iload_n hX dX5_giveFrom_64 rfl rfl ?_
        refine V_iload hX dX5_giveFrom_65 rfl ?_
        obtain ⟨q2, hq2, hr⟩ := bnd hr
        refine C_RX5_46 hX (c_X9_put (by omega) hq2) (Nat.le_of_ble_eq_true rfl) dX5_giveFrom_67 ?_
        refine V_aload_n hX dX5_giveFrom_70 rfl rfl ?_
        refine V_iload_n hX dX5_giveFrom_71 rfl rfl ?_
        refine V_iload hX dX5_giveFrom_72 rfl ?_
        obtain ⟨q3, hq3, hr⟩ := bnd hr
        refine C_RX5_79 hX (c_X5_difference (by omega) hq3) (Nat.le_of_ble_eq_true rfl) dX5_giveFrom_74 ?_
        refine V_istore hX dX5_giveFrom_77 (Nat.le_of_ble_eq_true rfl) rfl ?_
        refine V_aload_n hX dX5_giveFrom_79 rfl rfl ?_
        refine V_iload_n hX dX5_giveFrom_80 rfl rfl ?_
        refine V_iconst hX dX5_giveFrom_81 ic_1 ?_
        refine V_iadd hX dX5_giveFrom_82 ?_
        refine V_iload_n hX dX5_giveFrom_83 rfl rfl ?_
        refine V_iconst hX dX5_giveFrom_84 ic_1 ?_
        refine V_iload hX dX5_giveFrom_85 rfl ?_
        refine V_ishl hX dX5_giveFrom_87 ?_
        refine V_ior hX dX5_giveFrom_88 ?_
        refine V_iload_n hX dX5_giveFrom_89 rfl rfl ?_
        refine V_iload hX dX5_giveFrom_90 rfl ?_
        refine V_iadd hX dX5_giveFrom_92 ?_
        obtain ⟨q4, hq4, hr⟩ := bnd hr
        refine C_RX5_68 hX (hrc _ rfl hq4) (Nat.le_of_ble_eq_true rfl) dX5_giveFrom_93 ?_
        refine V_iinc hX dX5_giveFrom_96 rfl (ii_1 _) (Nat.le_of_ble_eq_true rfl) rfl ?_
        refine V_goto (tgt := 43) hX dX5_giveFrom_99 (by decide) ?_
        refine V_mask [true, true, true, true, true, true, false] ?_
        exact ih _ _ _ _ _ _ hr
set_option maxRecDepth 100000 in
set_option maxHeartbeats 4000000 in
theorem c_X5_giveFrom_r {d : Nat} (hd9 : 3 ≤ d) {rc : Int32 → Int32 → Int32 → Wd → Option Wd} (hrc : ∀ (e : Nat), d = e + 1 → ∀ {p1 : Int32} {p2 : Int32} {p3 : Int32} {w : Wd} {q : Wd}, rc p1 p2 p3 w = some q → Con e yX5_giveFrom cX5_giveFrom 7 none [.ref 20, .int p1, .int p2, .int p3] w none q) {p1 : Int32} {p2 : Int32} {p3 : Int32} {w : Wd} {r : Wd} (hr : f_X5_giveFrom_r rc p1 p2 p3 w = some r) : Con d yX5_giveFrom cX5_giveFrom 7 none [.ref 20, .int p1, .int p2, .int p3] w none r := by
  refine Con_of (by decide) (Nat.le_of_ble_eq_true rfl) (fun X hX hE => ?_)
  have hX : bOk cX5_giveFrom 7 RX5 d X := hX
  show bV X 0 [some (.ref 20), some (.int p1), some (.int p2), some (.int p3), none, none, none] [] w
  obtain ⟨d, rfl⟩ : ∃ e, d = e + 1 := ⟨d - 1, by omega⟩
  unfold f_X5_giveFrom_r at hr
  refine V_iload_n hX dX5_giveFrom_0 rfl rfl ?_
  refine V_iconst hX dX5_giveFrom_1 ic_5 ?_
  refine V_icmp_lt (tgt := 11) hX dX5_giveFrom_2 (by decide) (fun h2 => ?_) (fun h2 => ?_)
  · rw [if_pos h2] at hr
    refine V_aload_n hX dX5_giveFrom_11 rfl rfl ?_
    refine V_iload_n hX dX5_giveFrom_12 rfl rfl ?_
    obtain ⟨q1, hq1, hr⟩ := bnd hr
    refine C_RX5_34 hX (c_X5_isTold (by omega) hq1) (Nat.le_of_ble_eq_true rfl) dX5_giveFrom_13 ?_
    refine V_if_ne (tgt := 29) hX dX5_giveFrom_16 (by decide) (fun h16 => ?_) (fun h16 => ?_)
    · rw [if_neg h16] at hr
      refine V_aload_n hX dX5_giveFrom_29 rfl rfl ?_
      refine V_iload_n hX dX5_giveFrom_30 rfl rfl ?_
      obtain ⟨q2, hq2, hr⟩ := bnd hr
      refine C_RX5_76 hX (c_X5_openTo (by omega) hq2) (Nat.le_of_ble_eq_true rfl) dX5_giveFrom_31 ?_
      refine V_iload_n hX dX5_giveFrom_34 rfl rfl ?_
      refine V_iconst hX dX5_giveFrom_35 ic_m1 ?_
      refine V_ixor hX dX5_giveFrom_36 ?_
      refine V_iand hX dX5_giveFrom_37 ?_
      refine V_istore hX dX5_giveFrom_38 (Nat.le_of_ble_eq_true rfl) rfl ?_
      refine V_iconst hX dX5_giveFrom_40 ic_0 ?_
      refine V_istore hX dX5_giveFrom_41 (Nat.le_of_ble_eq_true rfl) rfl ?_
      refine V_mask [true, true, true, true, true, true, false] ?_
      exact v_X5_giveFrom_43 hd9 hX hE hrc _ _ _ _ _ _ _ hr
    · rw [if_pos h16] at hr
      refine V_aload_n hX dX5_giveFrom_19 rfl rfl ?_
      refine V_iload_n hX dX5_giveFrom_20 rfl rfl ?_
      refine V_iconst hX dX5_giveFrom_21 ic_1 ?_
      refine V_iadd hX dX5_giveFrom_22 ?_
      refine V_iload_n hX dX5_giveFrom_23 rfl rfl ?_
      refine V_iload_n hX dX5_giveFrom_24 rfl rfl ?_
      obtain ⟨q2, hq2, hr⟩ := bnd hr
      refine C_RX5_68 hX (hrc _ rfl hq2) (Nat.le_of_ble_eq_true rfl) dX5_giveFrom_25 ?_
      cases hr
      exact V_vret hX hE dX5_giveFrom_28
  · rw [if_neg h2] at hr
    refine V_aload_n hX dX5_giveFrom_5 rfl rfl ?_
    refine V_iload_n hX dX5_giveFrom_6 rfl rfl ?_
    obtain ⟨q1, hq1, hr⟩ := bnd hr
    refine C_RX5_72 hX (c_X5_keepIfBetter (by omega) hq1) (Nat.le_of_ble_eq_true rfl) dX5_giveFrom_7 ?_
    cases hr
    exact V_vret hX hE dX5_giveFrom_10
theorem c_X5_giveFrom_n : ∀ (n : Nat) {d : Nat} (hd9 : 2 + n ≤ d) {p1 : Int32} {p2 : Int32} {p3 : Int32} {w : Wd} {r : Wd} (hr : f_X5_giveFrom_n n p1 p2 p3 w = some r), Con d yX5_giveFrom cX5_giveFrom 7 none [.ref 20, .int p1, .int p2, .int p3] w none r
  | 0, _, _, _, _, _, _, _, hr => by cases hr
  | n + 1, d, hd9, _, _, _, w, r, hr => c_X5_giveFrom_r (by omega) (rc := f_X5_giveFrom_n n) (fun e he {p1} {p2} {p3} {w} {q} hq => c_X5_giveFrom_n n (by omega) hq) hr
theorem c_X5_giveFrom {d : Nat} (hd9 : 8 ≤ d) {p1 : Int32} {p2 : Int32} {p3 : Int32} {w : Wd} {r : Wd} (hr : f_X5_giveFrom p1 p2 p3 w = some r) : Con d yX5_giveFrom cX5_giveFrom 7 none [.ref 20, .int p1, .int p2, .int p3] w none r := c_X5_giveFrom_n 6 (by omega) hr
def f_X5_suitingOf_4 : Nat → Int32 → Int32 → Int32 → Wd → Option (Int32 × Wd)
  | 0, _, _, _, _ => none
  | n + 1, x1, x2, x3, w => if 8 ≤ x3 then
        (some (x2, w))
      else
        (Option.bind (f_X0_isBundle x3 w) fun q1 =>
        if q1.1 = 0 then
          (f_X5_suitingOf_4 n x1 x2 (x3 + 1) q1.2)
        else
          (Option.bind (f_X5_difference x1 x3 q1.2) fun q2 =>
          if (q2.2.1 5 9) < q2.1 then
            (f_X5_suitingOf_4 n x1 x2 (x3 + 1) q2.2)
          else
            (f_X5_suitingOf_4 n x1 (x2 ||| (jshl 1 x3)) (x3 + 1) q2.2)))
def f_X5_suitingOf (p0 : Int32) (w : Wd) : Option (Int32 × Wd) := f_X5_suitingOf_4 fu p0 0 0 w
set_option maxRecDepth 100000 in
set_option maxHeartbeats 4000000 in
theorem v_X5_suitingOf_4 {d : Nat} (hd9 : 3 ≤ d) {X : bX} (hX : bOk cX5_suitingOf 4 RX5 d X) {r : (Int32 × Wd)} (hE : bEnd (some .int) (some (.int r.1)) r.2 X) : ∀ (n : Nat) (x1 : Int32) (x2 : Int32) (x3 : Int32) (w : Wd), f_X5_suitingOf_4 n x1 x2 x3 w = some r → bV X 4 [some (.ref 20), some (.int x1), some (.int x2), some (.int x3)] [] w := by
  obtain ⟨d, rfl⟩ : ∃ e, d = e + 1 := ⟨d - 1, by omega⟩
  intro n
  induction n with
  | zero => intro x1 x2 x3 w hr; exact absurd hr (by simp [f_X5_suitingOf_4])
  | succ n ih =>
    intro x1 x2 x3 w hr
    rw [f_X5_suitingOf_4] at hr
    refine V_iload_n hX dX5_suitingOf_4 rfl rfl ?_
    refine V_bipush hX dX5_suitingOf_5 bp_8 ?_
    refine V_icmp_ge (tgt := 49) hX dX5_suitingOf_7 (by decide) (fun h7 => ?_) (fun h7 => ?_)
    · rw [if_pos h7] at hr
      refine V_iload_n hX dX5_suitingOf_49 rfl rfl ?_
      cases hr
      exact V_iret hX hE rfl dX5_suitingOf_50
    · rw [if_neg h7] at hr
      refine V_aload_n hX dX5_suitingOf_10 rfl rfl ?_
      refine G_RX5_30 hX dX5_suitingOf_11 ?_
      refine V_iload_n hX dX5_suitingOf_14 rfl rfl ?_
      obtain ⟨q1, hq1, hr⟩ := bnd hr
      refine C_RX5_93 hX (c_X0_isBundle (by omega) hq1) (Nat.le_of_ble_eq_true rfl) dX5_suitingOf_15 ?_
      refine V_if_eq (tgt := 43) hX dX5_suitingOf_18 (by decide) (fun h18 => ?_) (fun h18 => ?_)
      · rw [if_pos h18] at hr
        refine V_iinc hX dX5_suitingOf_43 rfl (ii_1 _) (Nat.le_of_ble_eq_true rfl) rfl ?_
        refine V_goto (tgt := 4) hX dX5_suitingOf_46 (by decide) ?_
        refine V_mask [true, true, true, true] ?_
        exact ih _ _ _ _ hr
      · rw [if_neg h18] at hr
        refine V_aload_n hX dX5_suitingOf_21 rfl rfl ?_
        refine V_iload_n hX dX5_suitingOf_22 rfl rfl ?_
        refine V_iload_n hX dX5_suitingOf_23 rfl rfl ?_
        obtain ⟨q2, hq2, hr⟩ := bnd hr
        refine C_RX5_79 hX (c_X5_difference (by omega) hq2) (Nat.le_of_ble_eq_true rfl) dX5_suitingOf_24 ?_
        refine V_aload_n hX dX5_suitingOf_27 rfl rfl ?_
        refine G_RX5_30 hX dX5_suitingOf_28 ?_
        refine G_RX5_96 hX dX5_suitingOf_31 ?_
        refine V_icmp_gt (tgt := 43) hX dX5_suitingOf_34 (by decide) (fun h34 => ?_) (fun h34 => ?_)
        · rw [if_pos h34] at hr
          refine V_iinc hX dX5_suitingOf_43 rfl (ii_1 _) (Nat.le_of_ble_eq_true rfl) rfl ?_
          refine V_goto (tgt := 4) hX dX5_suitingOf_46 (by decide) ?_
          refine V_mask [true, true, true, true] ?_
          exact ih _ _ _ _ hr
        · rw [if_neg h34] at hr
          refine V_iload_n hX dX5_suitingOf_37 rfl rfl ?_
          refine V_iconst hX dX5_suitingOf_38 ic_1 ?_
          refine V_iload_n hX dX5_suitingOf_39 rfl rfl ?_
          refine V_ishl hX dX5_suitingOf_40 ?_
          refine V_ior hX dX5_suitingOf_41 ?_
          refine V_istore_n hX dX5_suitingOf_42 rfl (Nat.le_of_ble_eq_true rfl) rfl ?_
          refine V_iinc hX dX5_suitingOf_43 rfl (ii_1 _) (Nat.le_of_ble_eq_true rfl) rfl ?_
          refine V_goto (tgt := 4) hX dX5_suitingOf_46 (by decide) ?_
          refine V_mask [true, true, true, true] ?_
          exact ih _ _ _ _ hr
set_option maxRecDepth 100000 in
set_option maxHeartbeats 4000000 in
theorem c_X5_suitingOf {d : Nat} (hd9 : 3 ≤ d) {p0 : Int32} {w : Wd} {r : (Int32 × Wd)} (hr : f_X5_suitingOf p0 w = some r) : Con d yX5_suitingOf cX5_suitingOf 4 (some .int) [.ref 20, .int p0] w (some (.int r.1)) r.2 := by
  refine Con_of (by decide) (Nat.le_of_ble_eq_true rfl) (fun X hX hE => ?_)
  have hX : bOk cX5_suitingOf 4 RX5 d X := hX
  show bV X 0 [some (.ref 20), some (.int p0), none, none] [] w
  obtain ⟨d, rfl⟩ : ∃ e, d = e + 1 := ⟨d - 1, by omega⟩
  unfold f_X5_suitingOf at hr
  refine V_iconst hX dX5_suitingOf_0 ic_0 ?_
  refine V_istore_n hX dX5_suitingOf_1 rfl (Nat.le_of_ble_eq_true rfl) rfl ?_
  refine V_iconst hX dX5_suitingOf_2 ic_0 ?_
  refine V_istore_n hX dX5_suitingOf_3 rfl (Nat.le_of_ble_eq_true rfl) rfl ?_
  refine V_mask [true, true, true, true] ?_
  exact v_X5_suitingOf_4 hd9 hX hE _ _ _ _ _ hr
def f_X5_touchedBy_4 : Nat → Int32 → Int32 → Int32 → Wd → Option (Int32 × Wd)
  | 0, _, _, _, _ => none
  | n + 1, x1, x2, x3, w => if 8 ≤ x3 then
        (some (x2, w))
      else
        (Option.bind (f_X0_yardsBetween x1 x3 0 w) fun q1 =>
        if (q1.2.1 5 10) < q1.1 then
          (f_X5_touchedBy_4 n x1 x2 (x3 + 1) q1.2)
        else
          (Option.bind (f_X0_yardsBetween x1 x3 1 q1.2) fun q2 =>
          if (q2.2.1 5 10) < q2.1 then
            (f_X5_touchedBy_4 n x1 x2 (x3 + 1) q2.2)
          else
            (f_X5_touchedBy_4 n x1 (x2 ||| (jshl 1 x3)) (x3 + 1) q2.2)))
def f_X5_touchedBy (p0 : Int32) (w : Wd) : Option (Int32 × Wd) := f_X5_touchedBy_4 fu p0 0 0 w
set_option maxRecDepth 100000 in
set_option maxHeartbeats 4000000 in
theorem v_X5_touchedBy_4 {d : Nat} (hd9 : 3 ≤ d) {X : bX} (hX : bOk cX5_touchedBy 4 RX5 d X) {r : (Int32 × Wd)} (hE : bEnd (some .int) (some (.int r.1)) r.2 X) : ∀ (n : Nat) (x1 : Int32) (x2 : Int32) (x3 : Int32) (w : Wd), f_X5_touchedBy_4 n x1 x2 x3 w = some r → bV X 4 [some (.ref 20), some (.int x1), some (.int x2), some (.int x3)] [] w := by
  obtain ⟨d, rfl⟩ : ∃ e, d = e + 1 := ⟨d - 1, by omega⟩
  intro n
  induction n with
  | zero => intro x1 x2 x3 w hr; exact absurd hr (by simp [f_X5_touchedBy_4])
  | succ n ih =>
    intro x1 x2 x3 w hr
    rw [f_X5_touchedBy_4] at hr
    refine V_iload_n hX dX5_touchedBy_4 rfl rfl ?_
    refine V_bipush hX dX5_touchedBy_5 bp_8 ?_
    refine V_icmp_ge (tgt := 62) hX dX5_touchedBy_7 (by decide) (fun h7 => ?_) (fun h7 => ?_)
    · rw [if_pos h7] at hr
      refine V_iload_n hX dX5_touchedBy_62 rfl rfl ?_
      cases hr
      exact V_iret hX hE rfl dX5_touchedBy_63
    · rw [if_neg h7] at hr
      refine V_aload_n hX dX5_touchedBy_10 rfl rfl ?_
      refine G_RX5_30 hX dX5_touchedBy_11 ?_
      refine V_iload_n hX dX5_touchedBy_14 rfl rfl ?_
      refine V_iload_n hX dX5_touchedBy_15 rfl rfl ?_
      refine V_iconst hX dX5_touchedBy_16 ic_0 ?_
      obtain ⟨q1, hq1, hr⟩ := bnd hr
      refine C_RX5_99 hX (c_X0_yardsBetween (by omega) hq1) (Nat.le_of_ble_eq_true rfl) dX5_touchedBy_17 ?_
      refine V_aload_n hX dX5_touchedBy_20 rfl rfl ?_
      refine G_RX5_30 hX dX5_touchedBy_21 ?_
      refine G_RX5_103 hX dX5_touchedBy_24 ?_
      refine V_icmp_gt (tgt := 56) hX dX5_touchedBy_27 (by decide) (fun h27 => ?_) (fun h27 => ?_)
      · rw [if_pos h27] at hr
        refine V_iinc hX dX5_touchedBy_56 rfl (ii_1 _) (Nat.le_of_ble_eq_true rfl) rfl ?_
        refine V_goto (tgt := 4) hX dX5_touchedBy_59 (by decide) ?_
        refine V_mask [true, true, true, true] ?_
        exact ih _ _ _ _ hr
      · rw [if_neg h27] at hr
        refine V_aload_n hX dX5_touchedBy_30 rfl rfl ?_
        refine G_RX5_30 hX dX5_touchedBy_31 ?_
        refine V_iload_n hX dX5_touchedBy_34 rfl rfl ?_
        refine V_iload_n hX dX5_touchedBy_35 rfl rfl ?_
        refine V_iconst hX dX5_touchedBy_36 ic_1 ?_
        obtain ⟨q2, hq2, hr⟩ := bnd hr
        refine C_RX5_99 hX (c_X0_yardsBetween (by omega) hq2) (Nat.le_of_ble_eq_true rfl) dX5_touchedBy_37 ?_
        refine V_aload_n hX dX5_touchedBy_40 rfl rfl ?_
        refine G_RX5_30 hX dX5_touchedBy_41 ?_
        refine G_RX5_103 hX dX5_touchedBy_44 ?_
        refine V_icmp_gt (tgt := 56) hX dX5_touchedBy_47 (by decide) (fun h47 => ?_) (fun h47 => ?_)
        · rw [if_pos h47] at hr
          refine V_iinc hX dX5_touchedBy_56 rfl (ii_1 _) (Nat.le_of_ble_eq_true rfl) rfl ?_
          refine V_goto (tgt := 4) hX dX5_touchedBy_59 (by decide) ?_
          refine V_mask [true, true, true, true] ?_
          exact ih _ _ _ _ hr
        · rw [if_neg h47] at hr
          refine V_iload_n hX dX5_touchedBy_50 rfl rfl ?_
          refine V_iconst hX dX5_touchedBy_51 ic_1 ?_
          refine V_iload_n hX dX5_touchedBy_52 rfl rfl ?_
          refine V_ishl hX dX5_touchedBy_53 ?_
          refine V_ior hX dX5_touchedBy_54 ?_
          refine V_istore_n hX dX5_touchedBy_55 rfl (Nat.le_of_ble_eq_true rfl) rfl ?_
          refine V_iinc hX dX5_touchedBy_56 rfl (ii_1 _) (Nat.le_of_ble_eq_true rfl) rfl ?_
          refine V_goto (tgt := 4) hX dX5_touchedBy_59 (by decide) ?_
          refine V_mask [true, true, true, true] ?_
          exact ih _ _ _ _ hr
set_option maxRecDepth 100000 in
set_option maxHeartbeats 4000000 in
theorem c_X5_touchedBy {d : Nat} (hd9 : 3 ≤ d) {p0 : Int32} {w : Wd} {r : (Int32 × Wd)} (hr : f_X5_touchedBy p0 w = some r) : Con d yX5_touchedBy cX5_touchedBy 4 (some .int) [.ref 20, .int p0] w (some (.int r.1)) r.2 := by
  refine Con_of (by decide) (Nat.le_of_ble_eq_true rfl) (fun X hX hE => ?_)
  have hX : bOk cX5_touchedBy 4 RX5 d X := hX
  show bV X 0 [some (.ref 20), some (.int p0), none, none] [] w
  obtain ⟨d, rfl⟩ : ∃ e, d = e + 1 := ⟨d - 1, by omega⟩
  unfold f_X5_touchedBy at hr
  refine V_iconst hX dX5_touchedBy_0 ic_0 ?_
  refine V_istore_n hX dX5_touchedBy_1 rfl (Nat.le_of_ble_eq_true rfl) rfl ?_
  refine V_iconst hX dX5_touchedBy_2 ic_0 ?_
  refine V_istore_n hX dX5_touchedBy_3 rfl (Nat.le_of_ble_eq_true rfl) rfl ?_
  refine V_mask [true, true, true, true] ?_
  exact v_X5_touchedBy_4 hd9 hX hE _ _ _ _ _ hr
def f_X5_giveAll_29 : Nat → Int32 → Wd → Option Wd
  | 0, _, _ => none
  | n + 1, x1, w => if 5 ≤ x1 then
        (Option.bind (f_X5_giveFrom 0 0 0 (wS (wS w 20 7 0) 20 8 0)) fun q1 =>
        some q1)
      else
        (Option.bind (f_X5_suitingOf x1 w) fun q1 =>
        Option.bind (f_X9_put 23 x1 q1.1 q1.2) fun q2 =>
        f_X5_giveAll_29 n (x1 + 1) q2)
def f_X5_giveAll_2 : Nat → Int32 → Wd → Option Wd
  | 0, _, _ => none
  | n + 1, x1, w => if 8 ≤ x1 then
        (f_X5_giveAll_29 fu 0 w)
      else
        (Option.bind (f_X5_touchedBy x1 w) fun q1 =>
        Option.bind (f_X9_put 24 x1 q1.1 q1.2) fun q2 =>
        f_X5_giveAll_2 n (x1 + 1) q2)
def f_X5_giveAll (w : Wd) : Option Wd := f_X5_giveAll_2 fu 0 w
set_option maxRecDepth 100000 in
set_option maxHeartbeats 4000000 in
theorem v_X5_giveAll_29 {d : Nat} (hd9 : 9 ≤ d) {X : bX} (hX : bOk cX5_giveAll 2 RX5 d X) {r : Wd} (hE : bEnd none none r X) : ∀ (n : Nat) (x1 : Int32) (w : Wd), f_X5_giveAll_29 n x1 w = some r → bV X 29 [some (.ref 20), some (.int x1)] [] w := by
  obtain ⟨d, rfl⟩ : ∃ e, d = e + 1 := ⟨d - 1, by omega⟩
  intro n
  induction n with
  | zero => intro x1 w hr; exact absurd hr (by simp [f_X5_giveAll_29])
  | succ n ih =>
    intro x1 w hr
    rw [f_X5_giveAll_29] at hr
    refine V_iload_n hX dX5_giveAll_29 rfl rfl ?_
    refine V_iconst hX dX5_giveAll_30 ic_5 ?_
    refine V_icmp_ge (tgt := 53) hX dX5_giveAll_31 (by decide) (fun h31 => ?_) (fun h31 => ?_)
    · rw [if_pos h31] at hr
      refine V_aload_n hX dX5_giveAll_53 rfl rfl ?_
      refine V_iconst hX dX5_giveAll_54 ic_0 ?_
      refine P_RX5_54 hX dX5_giveAll_55 ?_
      refine V_aload_n hX dX5_giveAll_58 rfl rfl ?_
      refine V_iconst hX dX5_giveAll_59 ic_0 ?_
      refine P_RX5_58 hX dX5_giveAll_60 ?_
      refine V_aload_n hX dX5_giveAll_63 rfl rfl ?_
      refine V_iconst hX dX5_giveAll_64 ic_0 ?_
      refine V_iconst hX dX5_giveAll_65 ic_0 ?_
      refine V_iconst hX dX5_giveAll_66 ic_0 ?_
      obtain ⟨q1, hq1, hr⟩ := bnd hr
      refine C_RX5_68 hX (c_X5_giveFrom (by omega) hq1) (Nat.le_of_ble_eq_true rfl) dX5_giveAll_67 ?_
      cases hr
      exact V_vret hX hE dX5_giveAll_70
    · rw [if_neg h31] at hr
      refine V_aload_n hX dX5_giveAll_34 rfl rfl ?_
      refine G_RX5_18 hX dX5_giveAll_35 ?_
      refine V_iload_n hX dX5_giveAll_38 rfl rfl ?_
      refine V_aload_n hX dX5_giveAll_39 rfl rfl ?_
      refine V_iload_n hX dX5_giveAll_40 rfl rfl ?_
      obtain ⟨q1, hq1, hr⟩ := bnd hr
      refine C_RX5_65 hX (c_X5_suitingOf (by omega) hq1) (Nat.le_of_ble_eq_true rfl) dX5_giveAll_41 ?_
      obtain ⟨q2, hq2, hr⟩ := bnd hr
      refine C_RX5_46 hX (c_X9_put (by omega) hq2) (Nat.le_of_ble_eq_true rfl) dX5_giveAll_44 ?_
      refine V_iinc hX dX5_giveAll_47 rfl (ii_1 _) (Nat.le_of_ble_eq_true rfl) rfl ?_
      refine V_goto (tgt := 29) hX dX5_giveAll_50 (by decide) ?_
      refine V_mask [true, true] ?_
      exact ih _ _ hr
set_option maxRecDepth 100000 in
set_option maxHeartbeats 4000000 in
theorem v_X5_giveAll_2 {d : Nat} (hd9 : 9 ≤ d) {X : bX} (hX : bOk cX5_giveAll 2 RX5 d X) {r : Wd} (hE : bEnd none none r X) : ∀ (n : Nat) (x1 : Int32) (w : Wd), f_X5_giveAll_2 n x1 w = some r → bV X 2 [some (.ref 20), some (.int x1)] [] w := by
  obtain ⟨d, rfl⟩ : ∃ e, d = e + 1 := ⟨d - 1, by omega⟩
  intro n
  induction n with
  | zero => intro x1 w hr; exact absurd hr (by simp [f_X5_giveAll_2])
  | succ n ih =>
    intro x1 w hr
    rw [f_X5_giveAll_2] at hr
    refine V_iload_n hX dX5_giveAll_2 rfl rfl ?_
    refine V_bipush hX dX5_giveAll_3 bp_8 ?_
    refine V_icmp_ge (tgt := 27) hX dX5_giveAll_5 (by decide) (fun h5 => ?_) (fun h5 => ?_)
    · rw [if_pos h5] at hr
      refine V_iconst hX dX5_giveAll_27 ic_0 ?_
      refine V_istore_n hX dX5_giveAll_28 rfl (Nat.le_of_ble_eq_true rfl) rfl ?_
      refine V_mask [true, true] ?_
      exact v_X5_giveAll_29 hd9 hX hE _ _ _ hr
    · rw [if_neg h5] at hr
      refine V_aload_n hX dX5_giveAll_8 rfl rfl ?_
      refine G_RX5_21 hX dX5_giveAll_9 ?_
      refine V_iload_n hX dX5_giveAll_12 rfl rfl ?_
      refine V_aload_n hX dX5_giveAll_13 rfl rfl ?_
      refine V_iload_n hX dX5_giveAll_14 rfl rfl ?_
      obtain ⟨q1, hq1, hr⟩ := bnd hr
      refine C_RX5_61 hX (c_X5_touchedBy (by omega) hq1) (Nat.le_of_ble_eq_true rfl) dX5_giveAll_15 ?_
      obtain ⟨q2, hq2, hr⟩ := bnd hr
      refine C_RX5_46 hX (c_X9_put (by omega) hq2) (Nat.le_of_ble_eq_true rfl) dX5_giveAll_18 ?_
      refine V_iinc hX dX5_giveAll_21 rfl (ii_1 _) (Nat.le_of_ble_eq_true rfl) rfl ?_
      refine V_goto (tgt := 2) hX dX5_giveAll_24 (by decide) ?_
      refine V_mask [true, true] ?_
      exact ih _ _ hr
set_option maxRecDepth 100000 in
set_option maxHeartbeats 4000000 in
theorem c_X5_giveAll {d : Nat} (hd9 : 9 ≤ d) {w : Wd} {r : Wd} (hr : f_X5_giveAll w = some r) : Con d yX5_giveAll cX5_giveAll 2 none [.ref 20] w none r := by
  refine Con_of (by decide) (Nat.le_of_ble_eq_true rfl) (fun X hX hE => ?_)
  have hX : bOk cX5_giveAll 2 RX5 d X := hX
  show bV X 0 [some (.ref 20), none] [] w
  obtain ⟨d, rfl⟩ : ∃ e, d = e + 1 := ⟨d - 1, by omega⟩
  unfold f_X5_giveAll at hr
  refine V_iconst hX dX5_giveAll_0 ic_0 ?_
  refine V_istore_n hX dX5_giveAll_1 rfl (Nat.le_of_ble_eq_true rfl) rfl ?_
  refine V_mask [true, true] ?_
  exact v_X5_giveAll_2 hd9 hX hE _ _ _ hr
def f_X5_howManyTold_4 : Nat → Int32 → Int32 → Wd → Option (Int32 × Wd)
  | 0, _, _, _ => none
  | n + 1, x1, x2, w => if 5 ≤ x2 then
        (some (x1, w))
      else
        (Option.bind (f_X5_isTold x2 w) fun q1 =>
        Option.bind (f_X9_oneIf q1.1 q1.2) fun q2 =>
        f_X5_howManyTold_4 n (x1 + q2.1) (x2 + 1) q2.2)
def f_X5_howManyTold (w : Wd) : Option (Int32 × Wd) := f_X5_howManyTold_4 fu 0 0 w
set_option maxRecDepth 100000 in
set_option maxHeartbeats 4000000 in
theorem v_X5_howManyTold_4 {d : Nat} (hd9 : 2 ≤ d) {X : bX} (hX : bOk cX5_howManyTold 3 RX5 d X) {r : (Int32 × Wd)} (hE : bEnd (some .int) (some (.int r.1)) r.2 X) : ∀ (n : Nat) (x1 : Int32) (x2 : Int32) (w : Wd), f_X5_howManyTold_4 n x1 x2 w = some r → bV X 4 [some (.ref 20), some (.int x1), some (.int x2)] [] w := by
  obtain ⟨d, rfl⟩ : ∃ e, d = e + 1 := ⟨d - 1, by omega⟩
  intro n
  induction n with
  | zero => intro x1 x2 w hr; exact absurd hr (by simp [f_X5_howManyTold_4])
  | succ n ih =>
    intro x1 x2 w hr
    rw [f_X5_howManyTold_4] at hr
    refine V_iload_n hX dX5_howManyTold_4 rfl rfl ?_
    refine V_iconst hX dX5_howManyTold_5 ic_5 ?_
    refine V_icmp_ge (tgt := 26) hX dX5_howManyTold_6 (by decide) (fun h6 => ?_) (fun h6 => ?_)
    · rw [if_pos h6] at hr
      refine V_iload_n hX dX5_howManyTold_26 rfl rfl ?_
      cases hr
      exact V_iret hX hE rfl dX5_howManyTold_27
    · rw [if_neg h6] at hr
      refine V_iload_n hX dX5_howManyTold_9 rfl rfl ?_
      refine V_aload_n hX dX5_howManyTold_10 rfl rfl ?_
      refine V_iload_n hX dX5_howManyTold_11 rfl rfl ?_
      obtain ⟨q1, hq1, hr⟩ := bnd hr
      refine C_RX5_34 hX (c_X5_isTold (by omega) hq1) (Nat.le_of_ble_eq_true rfl) dX5_howManyTold_12 ?_
      obtain ⟨q2, hq2, hr⟩ := bnd hr
      refine C_RX5_38 hX (c_X9_oneIf (by omega) hq2) (Nat.le_of_ble_eq_true rfl) dX5_howManyTold_15 ?_
      refine V_iadd hX dX5_howManyTold_18 ?_
      refine V_istore_n hX dX5_howManyTold_19 rfl (Nat.le_of_ble_eq_true rfl) rfl ?_
      refine V_iinc hX dX5_howManyTold_20 rfl (ii_1 _) (Nat.le_of_ble_eq_true rfl) rfl ?_
      refine V_goto (tgt := 4) hX dX5_howManyTold_23 (by decide) ?_
      refine V_mask [true, true, true] ?_
      exact ih _ _ _ hr
set_option maxRecDepth 100000 in
set_option maxHeartbeats 4000000 in
theorem c_X5_howManyTold {d : Nat} (hd9 : 2 ≤ d) {w : Wd} {r : (Int32 × Wd)} (hr : f_X5_howManyTold w = some r) : Con d yX5_howManyTold cX5_howManyTold 3 (some .int) [.ref 20] w (some (.int r.1)) r.2 := by
  refine Con_of (by decide) (Nat.le_of_ble_eq_true rfl) (fun X hX hE => ?_)
  have hX : bOk cX5_howManyTold 3 RX5 d X := hX
  show bV X 0 [some (.ref 20), none, none] [] w
  obtain ⟨d, rfl⟩ : ∃ e, d = e + 1 := ⟨d - 1, by omega⟩
  unfold f_X5_howManyTold at hr
  refine V_iconst hX dX5_howManyTold_0 ic_0 ?_
  refine V_istore_n hX dX5_howManyTold_1 rfl (Nat.le_of_ble_eq_true rfl) rfl ?_
  refine V_iconst hX dX5_howManyTold_2 ic_0 ?_
  refine V_istore_n hX dX5_howManyTold_3 rfl (Nat.le_of_ble_eq_true rfl) rfl ?_
  refine V_mask [true, true, true] ?_
  exact v_X5_howManyTold_4 hd9 hX hE _ _ _ _ hr
