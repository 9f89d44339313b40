def f_X4_nameOf (p0 : Int32) (w : Wd) : Option (Nat × Wd) := if p0 = 0 then
      (some (71, w))
    else if p0 = 1 then
      (some (72, w))
    else if p0 = 2 then
      (some (73, w))
    else if p0 = 3 then
      (some (74, w))
    else if p0 = 4 then
      (some (75, w))
    else if p0 = 5 then
      (some (76, w))
    else (some (77, w))
set_option maxRecDepth 100000 in
set_option maxHeartbeats 4000000 in
theorem c_X4_nameOf {d : Nat} (hd9 : 0 ≤ d) {p0 : Int32} {w : Wd} {r : (Nat × Wd)} (hr : f_X4_nameOf p0 w = some r) : Con d yX4_nameOf cX4_nameOf 1 (some (.object "java/lang/String")) [.int p0] w (some (.ref r.1)) r.2 := by
  refine Con_of (by decide) (Nat.le_of_ble_eq_true rfl) (fun X hX hE => ?_)
  have hX : bOk cX4_nameOf 1 RX4 d X := hX
  show bV X 0 [some (.int p0)] [] w
  unfold f_X4_nameOf at hr
  refine V_iload_n hX dX4_nameOf_0 rfl rfl ?_
  by_cases hs0 : p0 = 0
  · rw [if_pos hs0] at hr
    refine V_tableIn (tgt := 40) hX dX4_nameOf_1 (by rw [hs0]; decide) (by rw [hs0]; decide) (by rw [hs0]; rfl) (by decide) ?_
    refine V_ldcS (i := 1) hX (by decide) rfl rfl dX4_nameOf_40 ?_
    cases hr
    exact V_aret hX hE (Or.inl ⟨_, rfl⟩) dX4_nameOf_42
  rw [if_neg hs0] at hr
  by_cases hs1 : p0 = 1
  · rw [if_pos hs1] at hr
    refine V_tableIn (tgt := 43) hX dX4_nameOf_1 (by rw [hs1]; decide) (by rw [hs1]; decide) (by rw [hs1]; rfl) (by decide) ?_
    refine V_ldcS (i := 2) hX (by decide) rfl rfl dX4_nameOf_43 ?_
    cases hr
    exact V_aret hX hE (Or.inl ⟨_, rfl⟩) dX4_nameOf_45
  rw [if_neg hs1] at hr
  by_cases hs2 : p0 = 2
  · rw [if_pos hs2] at hr
    refine V_tableIn (tgt := 46) hX dX4_nameOf_1 (by rw [hs2]; decide) (by rw [hs2]; decide) (by rw [hs2]; rfl) (by decide) ?_
    refine V_ldcS (i := 3) hX (by decide) rfl rfl dX4_nameOf_46 ?_
    cases hr
    exact V_aret hX hE (Or.inl ⟨_, rfl⟩) dX4_nameOf_48
  rw [if_neg hs2] at hr
  by_cases hs3 : p0 = 3
  · rw [if_pos hs3] at hr
    refine V_tableIn (tgt := 49) hX dX4_nameOf_1 (by rw [hs3]; decide) (by rw [hs3]; decide) (by rw [hs3]; rfl) (by decide) ?_
    refine V_ldcS (i := 4) hX (by decide) rfl rfl dX4_nameOf_49 ?_
    cases hr
    exact V_aret hX hE (Or.inl ⟨_, rfl⟩) dX4_nameOf_51
  rw [if_neg hs3] at hr
  by_cases hs4 : p0 = 4
  · rw [if_pos hs4] at hr
    refine V_tableIn (tgt := 52) hX dX4_nameOf_1 (by rw [hs4]; decide) (by rw [hs4]; decide) (by rw [hs4]; rfl) (by decide) ?_
    refine V_ldcS (i := 5) hX (by decide) rfl rfl dX4_nameOf_52 ?_
    cases hr
    exact V_aret hX hE (Or.inl ⟨_, rfl⟩) dX4_nameOf_54
  rw [if_neg hs4] at hr
  by_cases hs5 : p0 = 5
  · rw [if_pos hs5] at hr
    refine V_tableIn (tgt := 55) hX dX4_nameOf_1 (by rw [hs5]; decide) (by rw [hs5]; decide) (by rw [hs5]; rfl) (by decide) ?_
    refine V_ldcS (i := 6) hX (by decide) rfl rfl dX4_nameOf_55 ?_
    cases hr
    exact V_aret hX hE (Or.inl ⟨_, rfl⟩) dX4_nameOf_57
  rw [if_neg hs5] at hr
  refine V_tableOut (tgt := 58) hX dX4_nameOf_1 (tb_out 5 (fun j hj => by rcases (show j = 0 ∨ j = 1 ∨ j = 2 ∨ j = 3 ∨ j = 4 ∨ j = 5 by omega) with rfl | rfl | rfl | rfl | rfl | rfl <;> assumption)) (by decide) ?_
  refine V_ldcS (i := 7) hX (by decide) rfl rfl dX4_nameOf_58 ?_
  cases hr
  exact V_aret hX hE (Or.inl ⟨_, rfl⟩) dX4_nameOf_60
def f_X4_tokenIs_20 : Nat → Nat → Int32 → Wd → Option (Int32 × Wd)
  | 0, _, _, _ => none
  | n + 1, x1, x2, w => Option.bind (f_J0_length_8abf5 x1 w) fun q1 =>
      if q1.1 ≤ x2 then
        (some (1, q1.2))
      else
        (Option.bind (f_J0_charAt_5068e x1 x2 q1.2) fun q2 =>
        Option.bind (f_X9_at 2 ((q2.2.1 3 3) + x2) q2.2) fun q3 =>
        if q2.1 = q3.1 then
          (f_X4_tokenIs_20 n x1 (x2 + 1) q3.2)
        else
          (some (0, q3.2)))
def f_X4_tokenIs (p0 : Nat) (w : Wd) : Option (Int32 × Wd) := Option.bind (f_J0_length_8abf5 p0 w) fun q1 =>
    if ((w.1 3 4) - (w.1 3 3)) = q1.1 then
      (f_X4_tokenIs_20 fu p0 0 q1.2)
    else
      (some (0, q1.2))
set_option maxRecDepth 100000 in
set_option maxHeartbeats 4000000 in
theorem v_X4_tokenIs_20 {d : Nat} (hd9 : 4 ≤ d) {X : bX} (hX : bOk cX4_tokenIs 3 RX4 d X) {r : (Int32 × Wd)} (hE : bEnd (some .boolean) (some (.int r.1)) r.2 X) : ∀ (n : Nat) (x1 : Nat) (x2 : Int32) (w : Wd), f_X4_tokenIs_20 n x1 x2 w = some r → bV X 20 [some (.ref 3), some (.ref x1), some (.int x2)] [] w := by
  obtain ⟨d, rfl⟩ : ∃ e, d = e + 1 := ⟨d - 1, by omega⟩
  intro n
  induction n with
  | zero => intro x1 x2 w hr; exact absurd hr (by simp [f_X4_tokenIs_20])
  | succ n ih =>
    intro x1 x2 w hr
    rw [f_X4_tokenIs_20] at hr
    refine V_iload_n hX dX4_tokenIs_20 rfl rfl ?_
    refine V_aload_n hX dX4_tokenIs_21 rfl rfl ?_
    obtain ⟨q1, hq1, hr⟩ := bnd hr
    refine C_RX4_113 hX (c_J0_length_8abf5 (by omega) hq1) (so_J0_length_8abf5 hq1) (Nat.le_of_ble_eq_true rfl) dX4_tokenIs_22 ?_
    refine V_icmp_ge (tgt := 60) hX dX4_tokenIs_25 (by decide) (fun h25 => ?_) (fun h25 => ?_)
    · rw [if_pos h25] at hr
      refine V_iconst hX dX4_tokenIs_60 ic_1 ?_
      cases hr
      exact V_iret hX hE rfl dX4_tokenIs_61
    · rw [if_neg h25] at hr
      refine V_aload_n hX dX4_tokenIs_28 rfl rfl ?_
      refine V_iload_n hX dX4_tokenIs_29 rfl rfl ?_
      obtain ⟨q2, hq2, hr⟩ := bnd hr
      refine C_RX4_117 hX (c_J0_charAt_5068e (by omega) hq2) (so_J0_charAt_5068e hq2) (Nat.le_of_ble_eq_true rfl) dX4_tokenIs_30 ?_
      refine V_aload_n hX dX4_tokenIs_33 rfl rfl ?_
      refine G_RX4_15 hX dX4_tokenIs_34 ?_
      refine G_RX4_66 hX dX4_tokenIs_37 ?_
      refine V_aload_n hX dX4_tokenIs_40 rfl rfl ?_
      refine G_RX4_30 hX dX4_tokenIs_41 ?_
      refine V_iload_n hX dX4_tokenIs_44 rfl rfl ?_
      refine V_iadd hX dX4_tokenIs_45 ?_
      obtain ⟨q3, hq3, hr⟩ := bnd hr
      refine C_RX4_47 hX (c_X9_at (by omega) hq3) (Nat.le_of_ble_eq_true rfl) dX4_tokenIs_46 ?_
      refine V_icmp_eq (tgt := 54) hX dX4_tokenIs_49 (by decide) (fun h49 => ?_) (fun h49 => ?_)
      · rw [if_pos h49] at hr
        refine V_iinc hX dX4_tokenIs_54 rfl (ii_1 _) (Nat.le_of_ble_eq_true rfl) rfl ?_
        refine V_goto (tgt := 20) hX dX4_tokenIs_57 (by decide) ?_
        refine V_mask [true, true, true] ?_
        exact ih _ _ _ hr
      · rw [if_neg h49] at hr
        refine V_iconst hX dX4_tokenIs_52 ic_0 ?_
        cases hr
        exact V_iret hX hE rfl dX4_tokenIs_53
set_option maxRecDepth 100000 in
set_option maxHeartbeats 4000000 in
theorem c_X4_tokenIs {d : Nat} (hd9 : 4 ≤ d) {p0 : Nat} {w : Wd} {r : (Int32 × Wd)} (hr : f_X4_tokenIs p0 w = some r) : Con d yX4_tokenIs cX4_tokenIs 3 (some .boolean) [.ref 3, .ref p0] w (some (.int r.1)) r.2 := by
  refine Con_of (by decide) (Nat.le_of_ble_eq_true rfl) (fun X hX hE => ?_)
  have hX : bOk cX4_tokenIs 3 RX4 d X := hX
  show bV X 0 [some (.ref 3), some (.ref p0), none] [] w
  obtain ⟨d, rfl⟩ : ∃ e, d = e + 1 := ⟨d - 1, by omega⟩
  unfold f_X4_tokenIs at hr
  refine V_aload_n hX dX4_tokenIs_0 rfl rfl ?_
  refine G_RX4_23 hX dX4_tokenIs_1 ?_
  refine V_aload_n hX dX4_tokenIs_4 rfl rfl ?_
  refine G_RX4_30 hX dX4_tokenIs_5 ?_
  refine V_isub hX dX4_tokenIs_8 ?_
  refine V_aload_n hX dX4_tokenIs_9 rfl rfl ?_
  obtain ⟨q1, hq1, hr⟩ := bnd hr
  refine C_RX4_113 hX (c_J0_length_8abf5 (by omega) hq1) (so_J0_length_8abf5 hq1) (Nat.le_of_ble_eq_true rfl) dX4_tokenIs_10 ?_
  refine V_icmp_eq (tgt := 18) hX dX4_tokenIs_13 (by decide) (fun h13 => ?_) (fun h13 => ?_)
  · rw [if_pos h13] at hr
    refine V_iconst hX dX4_tokenIs_18 ic_0 ?_
    refine V_istore_n hX dX4_tokenIs_19 rfl (Nat.le_of_ble_eq_true rfl) rfl ?_
    refine V_mask [true, true, true] ?_
    exact v_X4_tokenIs_20 hd9 hX hE _ _ _ _ hr
  · rw [if_neg h13] at hr
    refine V_iconst hX dX4_tokenIs_16 ic_0 ?_
    cases hr
    exact V_iret hX hE rfl dX4_tokenIs_17
def f_X4_kindTold_2 : Nat → Int32 → Wd → Option (Int32 × Wd)
  | 0, _, _ => none
  | n + 1, x1, w => if 7 ≤ x1 then
        (some ((-1), w))
      else
        (Option.bind (f_X4_nameOf x1 w) fun q1 =>
        Option.bind (f_X4_tokenIs q1.1 q1.2) fun q2 =>
        if q2.1 = 0 then
          (f_X4_kindTold_2 n (x1 + 1) q2.2)
        else
          (some (x1, q2.2)))
def f_X4_kindTold (w : Wd) : Option (Int32 × Wd) := f_X4_kindTold_2 fu 0 w
set_option maxRecDepth 100000 in
set_option maxHeartbeats 4000000 in
theorem v_X4_kindTold_2 {d : Nat} (hd9 : 5 ≤ d) {X : bX} (hX : bOk cX4_kindTold 2 RX4 d X) {r : (Int32 × Wd)} (hE : bEnd (some .int) (some (.int r.1)) r.2 X) : ∀ (n : Nat) (x1 : Int32) (w : Wd), f_X4_kindTold_2 n x1 w = some r → bV X 2 [some (.ref 3), some (.int x1)] [] w := by
  obtain ⟨d, rfl⟩ : ∃ e, d = e + 1 := ⟨d - 1, by omega⟩
  intro n
  induction n with
  | zero => intro x1 w hr; exact absurd hr (by simp [f_X4_kindTold_2])
  | succ n ih =>
    intro x1 w hr
    rw [f_X4_kindTold_2] at hr
    refine V_iload_n hX dX4_kindTold_2 rfl rfl ?_
    refine V_bipush hX dX4_kindTold_3 bp_7 ?_
    refine V_icmp_ge (tgt := 27) hX dX4_kindTold_5 (by decide) (fun h5 => ?_) (fun h5 => ?_)
    · rw [if_pos h5] at hr
      refine V_iconst hX dX4_kindTold_27 ic_m1 ?_
      cases hr
      exact V_iret hX hE rfl dX4_kindTold_28
    · rw [if_neg h5] at hr
      refine V_aload_n hX dX4_kindTold_8 rfl rfl ?_
      refine V_iload_n hX dX4_kindTold_9 rfl rfl ?_
      obtain ⟨q1, hq1, hr⟩ := bnd hr
      refine C_RX4_77 hX (c_X4_nameOf (by omega) hq1) (Nat.le_of_ble_eq_true rfl) dX4_kindTold_10 ?_
      obtain ⟨q2, hq2, hr⟩ := bnd hr
      refine C_RX4_43 hX (c_X4_tokenIs (by omega) hq2) (Nat.le_of_ble_eq_true rfl) dX4_kindTold_13 ?_
      refine V_if_eq (tgt := 21) hX dX4_kindTold_16 (by decide) (fun h16 => ?_) (fun h16 => ?_)
      · rw [if_pos h16] at hr
        refine V_iinc hX dX4_kindTold_21 rfl (ii_1 _) (Nat.le_of_ble_eq_true rfl) rfl ?_
        refine V_goto (tgt := 2) hX dX4_kindTold_24 (by decide) ?_
        refine V_mask [true, true] ?_
        exact ih _ _ hr
      · rw [if_neg h16] at hr
        refine V_iload_n hX dX4_kindTold_19 rfl rfl ?_
        cases hr
        exact V_iret hX hE rfl dX4_kindTold_20
set_option maxRecDepth 100000 in
set_option maxHeartbeats 4000000 in
theorem c_X4_kindTold {d : Nat} (hd9 : 5 ≤ d) {w : Wd} {r : (Int32 × Wd)} (hr : f_X4_kindTold w = some r) : Con d yX4_kindTold cX4_kindTold 2 (some .int) [.ref 3] w (some (.int r.1)) r.2 := by
  refine Con_of (by decide) (Nat.le_of_ble_eq_true rfl) (fun X hX hE => ?_)
  have hX : bOk cX4_kindTold 2 RX4 d X := hX
  show bV X 0 [some (.ref 3), none] [] w
  obtain ⟨d, rfl⟩ : ∃ e, d = e + 1 := ⟨d - 1, by omega⟩
  unfold f_X4_kindTold at hr
  refine V_iconst hX dX4_kindTold_0 ic_0 ?_
  refine V_istore_n hX dX4_kindTold_1 rfl (Nat.le_of_ble_eq_true rfl) rfl ?_
  refine V_mask [true, true] ?_
  exact v_X4_kindTold_2 hd9 hX hE _ _ _ hr
def f_X4_whichWord (p0 : Nat) (p1 : Nat) (w : Wd) : Option (Int32 × Wd) := Option.bind (f_X4_tokenIs p0 w) fun q1 =>
    if q1.1 = 0 then
      (Option.bind (f_X4_tokenIs p1 q1.2) fun q2 =>
      if q2.1 = 0 then
        (some ((-1), q2.2))
      else
        (some (1, q2.2)))
    else
      (some (0, q1.2))
set_option maxRecDepth 100000 in
set_option maxHeartbeats 4000000 in
theorem c_X4_whichWord {d : Nat} (hd9 : 5 ≤ d) {p0 : Nat} {p1 : Nat} {w : Wd} {r : (Int32 × Wd)} (hr : f_X4_whichWord p0 p1 w = some r) : Con d yX4_whichWord cX4_whichWord 3 (some .int) [.ref 3, .ref p0, .ref p1] w (some (.int r.1)) r.2 := by
  refine Con_of (by decide) (Nat.le_of_ble_eq_true rfl) (fun X hX hE => ?_)
  have hX : bOk cX4_whichWord 3 RX4 d X := hX
  show bV X 0 [some (.ref 3), some (.ref p0), some (.ref p1)] [] w
  obtain ⟨d, rfl⟩ : ∃ e, d = e + 1 := ⟨d - 1, by omega⟩
  unfold f_X4_whichWord at hr
  refine V_aload_n hX dX4_whichWord_0 rfl rfl ?_
  refine V_aload_n hX dX4_whichWord_1 rfl rfl ?_
  obtain ⟨q1, hq1, hr⟩ := bnd hr
  refine C_RX4_43 hX (c_X4_tokenIs (by omega) hq1) (Nat.le_of_ble_eq_true rfl) dX4_whichWord_2 ?_
  refine V_if_eq (tgt := 10) hX dX4_whichWord_5 (by decide) (fun h5 => ?_) (fun h5 => ?_)
  · rw [if_pos h5] at hr
    refine V_aload_n hX dX4_whichWord_10 rfl rfl ?_
    refine V_aload_n hX dX4_whichWord_11 rfl rfl ?_
    obtain ⟨q2, hq2, hr⟩ := bnd hr
    refine C_RX4_43 hX (c_X4_tokenIs (by omega) hq2) (Nat.le_of_ble_eq_true rfl) dX4_whichWord_12 ?_
    refine V_if_eq (tgt := 22) hX dX4_whichWord_15 (by decide) (fun h15 => ?_) (fun h15 => ?_)
    · rw [if_pos h15] at hr
      refine V_iconst hX dX4_whichWord_22 ic_m1 ?_
      cases hr
      exact V_iret hX hE rfl dX4_whichWord_23
    · rw [if_neg h15] at hr
      refine V_iconst hX dX4_whichWord_18 ic_1 ?_
      refine V_goto (tgt := 23) hX dX4_whichWord_19 (by decide) ?_
      cases hr
      exact V_iret hX hE rfl dX4_whichWord_23
  · rw [if_neg h5] at hr
    refine V_iconst hX dX4_whichWord_8 ic_0 ?_
    cases hr
    exact V_iret hX hE rfl dX4_whichWord_9
def f_X4_valueIn_87 (x2 : Int32) (x3 : Int32) (x4 : Int32) (w : Wd) : Option (Int32 × Wd) := if x3 = 2 then
      (if x4 = x2 then
        (some ((-1), w))
      else
        (some (x4, w)))
    else
      (some (x4, w))
def f_X4_valueIn (p0 : Int32) (p1 : Int32) (w : Wd) : Option (Int32 × Wd) := Option.bind (f_X9_at 60 (p0 * 3) w) fun q1 =>
    if q1.1 = 3 then
      (Option.bind (f_X4_whichWord 78 79 q1.2) fun q2 =>
      some (q2.1, q2.2))
    else
      (if q1.1 = 4 then
        (Option.bind (f_X4_whichWord 80 81 q1.2) fun q2 =>
        some (q2.1, q2.2))
      else
        (Option.bind (f_X4_tokenNumber q1.2) fun q2 =>
        Option.bind (f_X9_at 60 ((p0 * 3) + 1) q2.2) fun q3 =>
        Option.bind (f_X9_at 60 ((p0 * 3) + 2) q3.2) fun q4 =>
        Option.bind (f_X9_within q2.1 q3.1 q4.1 q4.2) fun q5 =>
        if q5.1 = 0 then
          (some ((-1), q5.2))
        else
          (if q1.1 = 1 then
            (if q2.1 < p1 then
              (some ((-1), q5.2))
            else
              (f_X4_valueIn_87 p1 q1.1 q2.1 q5.2))
          else
            (f_X4_valueIn_87 p1 q1.1 q2.1 q5.2))))
set_option maxRecDepth 100000 in
set_option maxHeartbeats 4000000 in
theorem v_X4_valueIn_87 {d : Nat} (hd9 : 6 ≤ d) {X : bX} (hX : bOk cX4_valueIn 5 RX4 d X) {r : (Int32 × Wd)} (hE : bEnd (some .int) (some (.int r.1)) r.2 X) : ∀ (x2 : Int32) (x3 : Int32) (x4 : Int32) (w : Wd), f_X4_valueIn_87 x2 x3 x4 w = some r → bV X 87 [none, none, some (.int x2), some (.int x3), some (.int x4)] [] w := by
  intro x2 x3 x4 w hr
  obtain ⟨d, rfl⟩ : ∃ e, d = e + 1 := ⟨d - 1, by omega⟩
  unfold f_X4_valueIn_87 at hr
  refine V_iload_n hX dX4_valueIn_87 rfl rfl ?_
  refine V_iconst hX dX4_valueIn_88 ic_2 ?_
  refine V_icmp_ne (tgt := 100) hX dX4_valueIn_89 (by decide) (fun h89 => ?_) (fun h89 => ?_)
  · rw [if_neg h89] at hr
    refine V_iload hX dX4_valueIn_100 rfl ?_
    cases hr
    exact V_iret hX hE rfl dX4_valueIn_102
  · rw [if_pos h89] at hr
    refine V_iload hX dX4_valueIn_92 rfl ?_
    refine V_iload_n hX dX4_valueIn_94 rfl rfl ?_
    refine V_icmp_ne (tgt := 100) hX dX4_valueIn_95 (by decide) (fun h95 => ?_) (fun h95 => ?_)
    · rw [if_neg h95] at hr
      refine V_iload hX dX4_valueIn_100 rfl ?_
      cases hr
      exact V_iret hX hE rfl dX4_valueIn_102
    · rw [if_pos h95] at hr
      refine V_iconst hX dX4_valueIn_98 ic_m1 ?_
      cases hr
      exact V_iret hX hE rfl dX4_valueIn_99
set_option maxRecDepth 100000 in
set_option maxHeartbeats 4000000 in
theorem c_X4_valueIn {d : Nat} (hd9 : 6 ≤ d) {p0 : Int32} {p1 : Int32} {w : Wd} {r : (Int32 × Wd)} (hr : f_X4_valueIn p0 p1 w = some r) : Con d yX4_valueIn cX4_valueIn 5 (some .int) [.ref 3, .int p0, .int p1] w (some (.int r.1)) r.2 := by
  refine Con_of (by decide) (Nat.le_of_ble_eq_true rfl) (fun X hX hE => ?_)
  have hX : bOk cX4_valueIn 5 RX4 d X := hX
  show bV X 0 [some (.ref 3), some (.int p0), some (.int p1), none, none] [] w
  obtain ⟨d, rfl⟩ : ∃ e, d = e + 1 := ⟨d - 1, by omega⟩
  unfold f_X4_valueIn at hr
  refine V_gets_SLOTS hX lc_RX4_95 dX4_valueIn_0 ?_
  refine V_iload_n hX dX4_valueIn_3 rfl rfl ?_
  refine V_iconst hX dX4_valueIn_4 ic_3 ?_
  refine V_imul hX dX4_valueIn_5 ?_
  obtain ⟨q1, hq1, hr⟩ := bnd hr
  refine C_RX4_47 hX (c_X9_at (by omega) hq1) (Nat.le_of_ble_eq_true rfl) dX4_valueIn_6 ?_
  refine V_istore_n hX dX4_valueIn_9 rfl (Nat.le_of_ble_eq_true rfl) rfl ?_
  refine V_iload_n hX dX4_valueIn_10 rfl rfl ?_
  refine V_iconst hX dX4_valueIn_11 ic_3 ?_
  refine V_icmp_ne (tgt := 24) hX dX4_valueIn_12 (by decide) (fun h12 => ?_) (fun h12 => ?_)
  · rw [if_neg h12] at hr
    refine V_iload_n hX dX4_valueIn_24 rfl rfl ?_
    refine V_iconst hX dX4_valueIn_25 ic_4 ?_
    refine V_icmp_ne (tgt := 38) hX dX4_valueIn_26 (by decide) (fun h26 => ?_) (fun h26 => ?_)
    · rw [if_neg h26] at hr
      refine V_aload_n hX dX4_valueIn_38 rfl rfl ?_
      obtain ⟨q2, hq2, hr⟩ := bnd hr
      refine C_RX4_110 hX (c_X4_tokenNumber (by omega) hq2) (Nat.le_of_ble_eq_true rfl) dX4_valueIn_39 ?_
      refine V_istore hX dX4_valueIn_42 (Nat.le_of_ble_eq_true rfl) rfl ?_
      refine V_iload hX dX4_valueIn_44 rfl ?_
      refine V_gets_SLOTS hX lc_RX4_95 dX4_valueIn_46 ?_
      refine V_iload_n hX dX4_valueIn_49 rfl rfl ?_
      refine V_iconst hX dX4_valueIn_50 ic_3 ?_
      refine V_imul hX dX4_valueIn_51 ?_
      refine V_iconst hX dX4_valueIn_52 ic_1 ?_
      refine V_iadd hX dX4_valueIn_53 ?_
      obtain ⟨q3, hq3, hr⟩ := bnd hr
      refine C_RX4_47 hX (c_X9_at (by omega) hq3) (Nat.le_of_ble_eq_true rfl) dX4_valueIn_54 ?_
      refine V_gets_SLOTS hX lc_RX4_95 dX4_valueIn_57 ?_
      refine V_iload_n hX dX4_valueIn_60 rfl rfl ?_
      refine V_iconst hX dX4_valueIn_61 ic_3 ?_
      refine V_imul hX dX4_valueIn_62 ?_
      refine V_iconst hX dX4_valueIn_63 ic_2 ?_
      refine V_iadd hX dX4_valueIn_64 ?_
      obtain ⟨q4, hq4, hr⟩ := bnd hr
      refine C_RX4_47 hX (c_X9_at (by omega) hq4) (Nat.le_of_ble_eq_true rfl) dX4_valueIn_65 ?_
      obtain ⟨q5, hq5, hr⟩ := bnd hr
      refine C_RX4_73 hX (c_X9_within (by omega) hq5) (Nat.le_of_ble_eq_true rfl) dX4_valueIn_68 ?_
      refine V_if_ne (tgt := 76) hX dX4_valueIn_71 (by decide) (fun h71 => ?_) (fun h71 => ?_)
      · rw [if_neg h71] at hr
        refine V_iload_n hX dX4_valueIn_76 rfl rfl ?_
        refine V_iconst hX dX4_valueIn_77 ic_1 ?_
        refine V_icmp_ne (tgt := 87) hX dX4_valueIn_78 (by decide) (fun h78 => ?_) (fun h78 => ?_)
        · rw [if_neg h78] at hr
          refine V_mask [false, false, true, true, true] ?_
          exact v_X4_valueIn_87 hd9 hX hE _ _ _ _ hr
        · rw [if_pos h78] at hr
          refine V_iload hX dX4_valueIn_81 rfl ?_
          refine V_iload_n hX dX4_valueIn_83 rfl rfl ?_
          refine V_icmp_lt (tgt := 98) hX dX4_valueIn_84 (by decide) (fun h84 => ?_) (fun h84 => ?_)
          · rw [if_pos h84] at hr
            refine V_iconst hX dX4_valueIn_98 ic_m1 ?_
            cases hr
            exact V_iret hX hE rfl dX4_valueIn_99
          · rw [if_neg h84] at hr
            refine V_mask [false, false, true, true, true] ?_
            exact v_X4_valueIn_87 hd9 hX hE _ _ _ _ hr
      · rw [if_pos h71] at hr
        refine V_iconst hX dX4_valueIn_74 ic_m1 ?_
        cases hr
        exact V_iret hX hE rfl dX4_valueIn_75
    · rw [if_pos h26] at hr
      refine V_aload_n hX dX4_valueIn_29 rfl rfl ?_
      refine V_ldcS (i := 10) hX (by decide) rfl rfl dX4_valueIn_30 ?_
      refine V_ldcS (i := 11) hX (by decide) rfl rfl dX4_valueIn_32 ?_
      obtain ⟨q2, hq2, hr⟩ := bnd hr
      refine C_RX4_102 hX (c_X4_whichWord (by omega) hq2) (Nat.le_of_ble_eq_true rfl) dX4_valueIn_34 ?_
      cases hr
      exact V_iret hX hE rfl dX4_valueIn_37
  · rw [if_pos h12] at hr
    refine V_aload_n hX dX4_valueIn_15 rfl rfl ?_
    refine V_ldcS (i := 8) hX (by decide) rfl rfl dX4_valueIn_16 ?_
    refine V_ldcS (i := 9) hX (by decide) rfl rfl dX4_valueIn_18 ?_
    obtain ⟨q2, hq2, hr⟩ := bnd hr
    refine C_RX4_102 hX (c_X4_whichWord (by omega) hq2) (Nat.le_of_ble_eq_true rfl) dX4_valueIn_20 ?_
    cases hr
    exact V_iret hX hE rfl dX4_valueIn_23
def f_X4_readLine_55 : Nat → Int32 → Int32 → Int32 → Int32 → Int32 → Wd → Option (Int32 × Wd)
  | 0, _, _, _, _, _, _ => none
  | n + 1, x1, x3, x4, x5, x6, w => if x4 ≤ x6 then
        (some (1, w))
      else
        (Option.bind (f_X4_takeToken w) fun q1 =>
        Option.bind (f_X4_valueIn (x3 + x6) x5 q1) fun q2 =>
        if q2.1 = (-1) then
          (some (0, q2.2))
        else
          (Option.bind (f_X9_put 4 (((x1 * 11) + 1) + x6) q2.1 q2.2) fun q3 =>
          f_X4_readLine_55 n x1 x3 x4 q2.1 (x6 + 1) q3))
def f_X4_readLine (p0 : Int32) (w : Wd) : Option (Int32 × Wd) := Option.bind (f_X4_takeToken w) fun q1 =>
    Option.bind (f_X4_kindTold q1) fun q2 =>
    if q2.1 = (-1) then
      (some (0, q2.2))
    else
      (Option.bind (f_X9_put 4 (p0 * 11) q2.1 q2.2) fun q3 =>
      Option.bind (f_X9_at 61 q2.1 q3) fun q4 =>
      Option.bind (f_X9_at 61 (q2.1 + 1) q4.2) fun q5 =>
      f_X4_readLine_55 fu p0 q4.1 (q5.1 - q4.1) (-1) 0 q5.2)
set_option maxRecDepth 100000 in
set_option maxHeartbeats 4000000 in
theorem v_X4_readLine_55 {d : Nat} (hd9 : 7 ≤ d) {X : bX} (hX : bOk cX4_readLine 7 RX4 d X) {r : (Int32 × Wd)} (hE : bEnd (some .boolean) (some (.int r.1)) r.2 X) : ∀ (n : Nat) (x1 : Int32) (x3 : Int32) (x4 : Int32) (x5 : Int32) (x6 : Int32) (w : Wd), f_X4_readLine_55 n x1 x3 x4 x5 x6 w = some r → bV X 55 [some (.ref 3), some (.int x1), none, some (.int x3), some (.int x4), some (.int x5), some (.int x6)] [] w := by
  obtain ⟨d, rfl⟩ : ∃ e, d = e + 1 := ⟨d - 1, by omega⟩
  intro n
  induction n with
  | zero => intro x1 x3 x4 x5 x6 w hr; exact absurd hr (by simp [f_X4_readLine_55])
  | succ n ih =>
    intro x1 x3 x4 x5 x6 w hr
    rw [f_X4_readLine_55] at hr
    refine V_iload hX dX4_readLine_55 rfl ?_
    refine V_iload hX dX4_readLine_57 rfl ?_
    refine V_icmp_ge (tgt := 110) hX dX4_readLine_59 (by decide) (fun h59 => ?_) (fun h59 => ?_)
    · rw [if_pos h59] at hr
      refine V_iconst hX dX4_readLine_110 ic_1 ?_
      cases hr
      exact V_iret hX hE rfl dX4_readLine_111
    · rw [if_neg h59] at hr
      refine V_aload_n hX dX4_readLine_62 rfl rfl ?_
      obtain ⟨q1, hq1, hr⟩ := bnd hr
      refine C_RX4_33 hX (c_X4_takeToken (by omega) hq1) (Nat.le_of_ble_eq_true rfl) dX4_readLine_63 ?_
      refine V_aload_n hX dX4_readLine_66 rfl rfl ?_
      refine V_iload_n hX dX4_readLine_67 rfl rfl ?_
      refine V_iload hX dX4_readLine_68 rfl ?_
      refine V_iadd hX dX4_readLine_70 ?_
      refine V_iload hX dX4_readLine_71 rfl ?_
      obtain ⟨q2, hq2, hr⟩ := bnd hr
      refine C_RX4_62 hX (c_X4_valueIn (by omega) hq2) (Nat.le_of_ble_eq_true rfl) dX4_readLine_73 ?_
      refine V_istore hX dX4_readLine_76 (Nat.le_of_ble_eq_true rfl) rfl ?_
      refine V_iload hX dX4_readLine_78 rfl ?_
      refine V_iconst hX dX4_readLine_80 ic_m1 ?_
      refine V_icmp_ne (tgt := 86) hX dX4_readLine_81 (by decide) (fun h81 => ?_) (fun h81 => ?_)
      · rw [if_neg h81] at hr
        refine V_aload_n hX dX4_readLine_86 rfl rfl ?_
        refine G_RX4_11 hX dX4_readLine_87 ?_
        refine V_iload_n hX dX4_readLine_90 rfl rfl ?_
        refine V_bipush hX dX4_readLine_91 bp_11 ?_
        refine V_imul hX dX4_readLine_93 ?_
        refine V_iconst hX dX4_readLine_94 ic_1 ?_
        refine V_iadd hX dX4_readLine_95 ?_
        refine V_iload hX dX4_readLine_96 rfl ?_
        refine V_iadd hX dX4_readLine_98 ?_
        refine V_iload hX dX4_readLine_99 rfl ?_
        obtain ⟨q3, hq3, hr⟩ := bnd hr
        refine C_RX4_55 hX (c_X9_put (by omega) hq3) (Nat.le_of_ble_eq_true rfl) dX4_readLine_101 ?_
        refine V_iinc hX dX4_readLine_104 rfl (ii_1 _) (Nat.le_of_ble_eq_true rfl) rfl ?_
        refine V_goto (tgt := 55) hX dX4_readLine_107 (by decide) ?_
        refine V_mask [true, true, false, true, true, true, true] ?_
        exact ih _ _ _ _ _ _ hr
      · rw [if_pos h81] at hr
        refine V_iconst hX dX4_readLine_84 ic_0 ?_
        cases hr
        exact V_iret hX hE rfl dX4_readLine_85
set_option maxRecDepth 100000 in
set_option maxHeartbeats 4000000 in
theorem c_X4_readLine {d : Nat} (hd9 : 7 ≤ d) {p0 : Int32} {w : Wd} {r : (Int32 × Wd)} (hr : f_X4_readLine p0 w = some r) : Con d yX4_readLine cX4_readLine 7 (some .boolean) [.ref 3, .int p0] w (some (.int r.1)) r.2 := by
  refine Con_of (by decide) (Nat.le_of_ble_eq_true rfl) (fun X hX hE => ?_)
  have hX : bOk cX4_readLine 7 RX4 d X := hX
  show bV X 0 [some (.ref 3), some (.int p0), none, none, none, none, none] [] w
  obtain ⟨d, rfl⟩ : ∃ e, d = e + 1 := ⟨d - 1, by omega⟩
  unfold f_X4_readLine at hr
  refine V_aload_n hX dX4_readLine_0 rfl rfl ?_
  obtain ⟨q1, hq1, hr⟩ := bnd hr
  refine C_RX4_33 hX (c_X4_takeToken (by omega) hq1) (Nat.le_of_ble_eq_true rfl) dX4_readLine_1 ?_
  refine V_aload_n hX dX4_readLine_4 rfl rfl ?_
  obtain ⟨q2, hq2, hr⟩ := bnd hr
  refine C_RX4_51 hX (c_X4_kindTold (by omega) hq2) (Nat.le_of_ble_eq_true rfl) dX4_readLine_5 ?_
  refine V_istore_n hX dX4_readLine_8 rfl (Nat.le_of_ble_eq_true rfl) rfl ?_
  refine V_iload_n hX dX4_readLine_9 rfl rfl ?_
  refine V_iconst hX dX4_readLine_10 ic_m1 ?_
  refine V_icmp_ne (tgt := 16) hX dX4_readLine_11 (by decide) (fun h11 => ?_) (fun h11 => ?_)
  · rw [if_neg h11] at hr
    refine V_aload_n hX dX4_readLine_16 rfl rfl ?_
    refine G_RX4_11 hX dX4_readLine_17 ?_
    refine V_iload_n hX dX4_readLine_20 rfl rfl ?_
    refine V_bipush hX dX4_readLine_21 bp_11 ?_
    refine V_imul hX dX4_readLine_23 ?_
    refine V_iload_n hX dX4_readLine_24 rfl rfl ?_
    obtain ⟨q3, hq3, hr⟩ := bnd hr
    refine C_RX4_55 hX (c_X9_put (by omega) hq3) (Nat.le_of_ble_eq_true rfl) dX4_readLine_25 ?_
    refine V_gets_FIRST_SLOT hX lc_RX4_59 dX4_readLine_28 ?_
    refine V_iload_n hX dX4_readLine_31 rfl rfl ?_
    obtain ⟨q4, hq4, hr⟩ := bnd hr
    refine C_RX4_47 hX (c_X9_at (by omega) hq4) (Nat.le_of_ble_eq_true rfl) dX4_readLine_32 ?_
    refine V_istore_n hX dX4_readLine_35 rfl (Nat.le_of_ble_eq_true rfl) rfl ?_
    refine V_gets_FIRST_SLOT hX lc_RX4_59 dX4_readLine_36 ?_
    refine V_iload_n hX dX4_readLine_39 rfl rfl ?_
    refine V_iconst hX dX4_readLine_40 ic_1 ?_
    refine V_iadd hX dX4_readLine_41 ?_
    obtain ⟨q5, hq5, hr⟩ := bnd hr
    refine C_RX4_47 hX (c_X9_at (by omega) hq5) (Nat.le_of_ble_eq_true rfl) dX4_readLine_42 ?_
    refine V_iload_n hX dX4_readLine_45 rfl rfl ?_
    refine V_isub hX dX4_readLine_46 ?_
    refine V_istore hX dX4_readLine_47 (Nat.le_of_ble_eq_true rfl) rfl ?_
    refine V_iconst hX dX4_readLine_49 ic_m1 ?_
    refine V_istore hX dX4_readLine_50 (Nat.le_of_ble_eq_true rfl) rfl ?_
    refine V_iconst hX dX4_readLine_52 ic_0 ?_
    refine V_istore hX dX4_readLine_53 (Nat.le_of_ble_eq_true rfl) rfl ?_
    refine V_mask [true, true, false, true, true, true, true] ?_
    exact v_X4_readLine_55 hd9 hX hE _ _ _ _ _ _ _ hr
  · rw [if_pos h11] at hr
    refine V_iconst hX dX4_readLine_14 ic_0 ?_
    cases hr
    exact V_iret hX hE rfl dX4_readLine_15
def f_X4_firstFault_12 : Nat → Int32 → Wd → Option (Int32 × Wd)
  | 0, _, _ => none
  | n + 1, x1, w => if 8 ≤ x1 then
        (some ((w.1 3 3), w))
      else
        (Option.bind (f_X4_readLine x1 w) fun q1 =>
        if q1.1 = 0 then
          (some ((q1.2.1 3 3), q1.2))
        else
          (Option.bind (f_X4_takeToken (wS q1.2 3 2 (x1 + 1))) fun q2 =>
          if (q2.1 3 3) = (q2.1 1 1) then
            (some ((-1), q2))
          else
            (Option.bind (f_X4_tokenIs 70 q2) fun q3 =>
            if q3.1 = 0 then
              (some ((q3.2.1 3 3), q3.2))
            else
              (f_X4_firstFault_12 n (x1 + 1) q3.2))))
def f_X4_firstFault (w : Wd) : Option (Int32 × Wd) := f_X4_firstFault_12 fu 0 (wS (wS w 3 2 0) 3 4 0)
set_option maxRecDepth 100000 in
set_option maxHeartbeats 4000000 in
theorem v_X4_firstFault_12 {d : Nat} (hd9 : 8 ≤ d) {X : bX} (hX : bOk cX4_firstFault 2 RX4 d X) {r : (Int32 × Wd)} (hE : bEnd (some .int) (some (.int r.1)) r.2 X) : ∀ (n : Nat) (x1 : Int32) (w : Wd), f_X4_firstFault_12 n x1 w = some r → bV X 12 [some (.ref 3), some (.int x1)] [] w := by
  obtain ⟨d, rfl⟩ : ∃ e, d = e + 1 := ⟨d - 1, by omega⟩
  intro n
  induction n with
  | zero => intro x1 w hr; exact absurd hr (by simp [f_X4_firstFault_12])
  | succ n ih =>
    intro x1 w hr
    rw [f_X4_firstFault_12] at hr
    refine V_iload_n hX dX4_firstFault_12 rfl rfl ?_
    refine V_bipush hX dX4_firstFault_13 bp_8 ?_
    refine V_icmp_ge (tgt := 78) hX dX4_firstFault_15 (by decide) (fun h15 => ?_) (fun h15 => ?_)
    · rw [if_pos h15] at hr
      refine V_aload_n hX dX4_firstFault_78 rfl rfl ?_
      refine G_RX4_30 hX dX4_firstFault_79 ?_
      cases hr
      exact V_iret hX hE rfl dX4_firstFault_82
    · rw [if_neg h15] at hr
      refine V_aload_n hX dX4_firstFault_18 rfl rfl ?_
      refine V_iload_n hX dX4_firstFault_19 rfl rfl ?_
      obtain ⟨q1, hq1, hr⟩ := bnd hr
      refine C_RX4_26 hX (c_X4_readLine (by omega) hq1) (Nat.le_of_ble_eq_true rfl) dX4_firstFault_20 ?_
      refine V_if_ne (tgt := 31) hX dX4_firstFault_23 (by decide) (fun h23 => ?_) (fun h23 => ?_)
      · rw [if_neg h23] at hr
        refine V_aload_n hX dX4_firstFault_31 rfl rfl ?_
        refine V_iload_n hX dX4_firstFault_32 rfl rfl ?_
        refine V_iconst hX dX4_firstFault_33 ic_1 ?_
        refine V_iadd hX dX4_firstFault_34 ?_
        refine P_RX4_19 hX dX4_firstFault_35 ?_
        refine V_aload_n hX dX4_firstFault_38 rfl rfl ?_
        obtain ⟨q2, hq2, hr⟩ := bnd hr
        refine C_RX4_33 hX (c_X4_takeToken (by omega) hq2) (Nat.le_of_ble_eq_true rfl) dX4_firstFault_39 ?_
        refine V_aload_n hX dX4_firstFault_42 rfl rfl ?_
        refine G_RX4_30 hX dX4_firstFault_43 ?_
        refine V_aload_n hX dX4_firstFault_46 rfl rfl ?_
        refine G_RX4_15 hX dX4_firstFault_47 ?_
        refine G_RX4_36 hX dX4_firstFault_50 ?_
        refine V_icmp_ne (tgt := 58) hX dX4_firstFault_53 (by decide) (fun h53 => ?_) (fun h53 => ?_)
        · rw [if_neg h53] at hr
          refine V_aload_n hX dX4_firstFault_58 rfl rfl ?_
          refine V_ldcS (i := 0) hX (by decide) rfl rfl dX4_firstFault_59 ?_
          obtain ⟨q3, hq3, hr⟩ := bnd hr
          refine C_RX4_43 hX (c_X4_tokenIs (by omega) hq3) (Nat.le_of_ble_eq_true rfl) dX4_firstFault_61 ?_
          refine V_if_ne (tgt := 72) hX dX4_firstFault_64 (by decide) (fun h64 => ?_) (fun h64 => ?_)
          · rw [if_neg h64] at hr
            refine V_iinc hX dX4_firstFault_72 rfl (ii_1 _) (Nat.le_of_ble_eq_true rfl) rfl ?_
            refine V_goto (tgt := 12) hX dX4_firstFault_75 (by decide) ?_
            refine V_mask [true, true] ?_
            exact ih _ _ hr
          · rw [if_pos h64] at hr
            refine V_aload_n hX dX4_firstFault_67 rfl rfl ?_
            refine G_RX4_30 hX dX4_firstFault_68 ?_
            cases hr
            exact V_iret hX hE rfl dX4_firstFault_71
        · rw [if_pos h53] at hr
          refine V_iconst hX dX4_firstFault_56 ic_m1 ?_
          cases hr
          exact V_iret hX hE rfl dX4_firstFault_57
      · rw [if_pos h23] at hr
        refine V_aload_n hX dX4_firstFault_26 rfl rfl ?_
        refine G_RX4_30 hX dX4_firstFault_27 ?_
        cases hr
        exact V_iret hX hE rfl dX4_firstFault_30
set_option maxRecDepth 100000 in
set_option maxHeartbeats 4000000 in
theorem c_X4_firstFault {d : Nat} (hd9 : 8 ≤ d) {w : Wd} {r : (Int32 × Wd)} (hr : f_X4_firstFault w = some r) : Con d yX4_firstFault cX4_firstFault 2 (some .int) [.ref 3] w (some (.int r.1)) r.2 := by
  refine Con_of (by decide) (Nat.le_of_ble_eq_true rfl) (fun X hX hE => ?_)
  have hX : bOk cX4_firstFault 2 RX4 d X := hX
  show bV X 0 [some (.ref 3), none] [] w
  obtain ⟨d, rfl⟩ : ∃ e, d = e + 1 := ⟨d - 1, by omega⟩
  unfold f_X4_firstFault at hr
  refine V_aload_n hX dX4_firstFault_0 rfl rfl ?_
  refine V_iconst hX dX4_firstFault_1 ic_0 ?_
  refine P_RX4_19 hX dX4_firstFault_2 ?_
  refine V_aload_n hX dX4_firstFault_5 rfl rfl ?_
  refine V_iconst hX dX4_firstFault_6 ic_0 ?_
  refine P_RX4_23 hX dX4_firstFault_7 ?_
  refine V_iconst hX dX4_firstFault_10 ic_0 ?_
  refine V_istore_n hX dX4_firstFault_11 rfl (Nat.le_of_ble_eq_true rfl) rfl ?_
  refine V_mask [true, true] ?_
  exact v_X4_firstFault_12 hd9 hX hE _ _ _ hr
