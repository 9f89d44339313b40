def f_X10_isRead_12 : Nat → Int32 → Wd → Option (Int32 × Wd)
  | 0, _, _ => none
  | n + 1, x1, w => if x1 = 0 then
        (if (lg_cmp w.2 (-2)) = 0 then
          (some (1, w))
        else
          (Option.bind (f_X10_fails w) fun q1 =>
          if q1.1 = 0 then
            (some (0, q1.2))
          else
            (some (1, q1.2))))
      else
        (Option.bind (f_X10_isLine (11 * (w.1 33 23)) w) fun q1 =>
        if q1.1 = 0 then
          (some (0, q1.2))
        else
          (Option.bind (f_X10_nextToken (wS q1.2 33 23 ((q1.2.1 33 23) + 1))) fun q2 =>
          if (lg_cmp q2.2 (-3)) = 0 then
            (if 8 ≤ (q2.1 33 23) then
              (f_X10_isRead_12 n 0 q2)
            else
              (f_X10_isRead_12 n 1 q2))
          else
            (f_X10_isRead_12 n 0 q2)))
def f_X10_isRead (w : Wd) : Option (Int32 × Wd) := f_X10_isRead_12 fu 1 (wS (wS w 33 17 0) 33 23 0)
set_option maxRecDepth 100000 in
set_option maxHeartbeats 4000000 in
theorem v_X10_isRead_12 {d : Nat} (hd9 : 5 ≤ d) {X : bX} (hX : bOk cX10_isRead 2 RX10 d X) {r : (Int32 × Wd)} (hE : bEnd (some .boolean) (some (.int r.1)) r.2 X) : ∀ (n : Nat) (x1 : Int32) (w : Wd), f_X10_isRead_12 n x1 w = some r → bV X 12 [some (.ref 33), some (.int x1)] [] w := by
  obtain ⟨d, rfl⟩ : ∃ e, d = e + 1 := ⟨d - 1, by omega⟩
  intro n
  induction n with
  | zero => intro x1 w hr; exact absurd hr (by simp [f_X10_isRead_12])
  | succ n ih =>
    intro x1 w hr
    rw [f_X10_isRead_12] at hr
    refine V_iload_n hX dX10_isRead_12 rfl rfl ?_
    refine V_if_eq (tgt := 75) hX dX10_isRead_13 (by decide) (fun h13 => ?_) (fun h13 => ?_)
    · rw [if_pos h13] at hr
      refine V_aload_n hX dX10_isRead_75 rfl rfl ?_
      refine G_RX10_116 hX dX10_isRead_76 ?_
      refine V_ldc2 (v := (-2)) hX lc_RX10_114 dX10_isRead_79 ?_
      refine V_lcmp hX dX10_isRead_82 ?_
      refine V_if_eq (tgt := 93) hX dX10_isRead_83 (by decide) (fun h83 => ?_) (fun h83 => ?_)
      · rw [if_pos h83] at hr
        refine V_iconst hX dX10_isRead_93 ic_1 ?_
        refine V_goto (tgt := 98) hX dX10_isRead_94 (by decide) ?_
        cases hr
        exact V_iret hX hE rfl dX10_isRead_98
      · rw [if_neg h83] at hr
        refine V_aload_n hX dX10_isRead_86 rfl rfl ?_
        obtain ⟨q1, hq1, hr⟩ := bnd hr
        refine C_RX10_136 hX (c_X10_fails (by omega) hq1) (Nat.le_of_ble_eq_true rfl) dX10_isRead_87 ?_
        refine V_if_eq (tgt := 97) hX dX10_isRead_90 (by decide) (fun h90 => ?_) (fun h90 => ?_)
        · rw [if_pos h90] at hr
          refine V_iconst hX dX10_isRead_97 ic_0 ?_
          cases hr
          exact V_iret hX hE rfl dX10_isRead_98
        · rw [if_neg h90] at hr
          refine V_iconst hX dX10_isRead_93 ic_1 ?_
          refine V_goto (tgt := 98) hX dX10_isRead_94 (by decide) ?_
          cases hr
          exact V_iret hX hE rfl dX10_isRead_98
    · rw [if_neg h13] at hr
      refine V_aload_n hX dX10_isRead_16 rfl rfl ?_
      refine V_bipush hX dX10_isRead_17 bp_11 ?_
      refine V_aload_n hX dX10_isRead_19 rfl rfl ?_
      refine G_RX10_175 hX dX10_isRead_20 ?_
      refine V_imul hX dX10_isRead_23 ?_
      obtain ⟨q1, hq1, hr⟩ := bnd hr
      refine C_RX10_178 hX (c_X10_isLine (by omega) hq1) (Nat.le_of_ble_eq_true rfl) dX10_isRead_24 ?_
      refine V_if_ne (tgt := 32) hX dX10_isRead_27 (by decide) (fun h27 => ?_) (fun h27 => ?_)
      · rw [if_neg h27] at hr
        refine V_aload_n hX dX10_isRead_32 rfl rfl ?_
        refine V_dup hX dX10_isRead_33 rfl ?_
        refine G_RX10_175 hX dX10_isRead_34 ?_
        refine V_iconst hX dX10_isRead_37 ic_1 ?_
        refine V_iadd hX dX10_isRead_38 ?_
        refine P_RX10_175 hX dX10_isRead_39 ?_
        refine V_aload_n hX dX10_isRead_42 rfl rfl ?_
        obtain ⟨q2, hq2, hr⟩ := bnd hr
        refine C_RX10_133 hX (c_X10_nextToken (by omega) hq2) (Nat.le_of_ble_eq_true rfl) dX10_isRead_43 ?_
        refine V_aload_n hX dX10_isRead_46 rfl rfl ?_
        refine G_RX10_116 hX dX10_isRead_47 ?_
        refine V_ldc2 (v := (-3)) hX lc_RX10_128 dX10_isRead_50 ?_
        refine V_lcmp hX dX10_isRead_53 ?_
        refine V_if_ne (tgt := 70) hX dX10_isRead_54 (by decide) (fun h54 => ?_) (fun h54 => ?_)
        · rw [if_neg h54] at hr
          refine V_iconst hX dX10_isRead_70 ic_0 ?_
          refine V_istore_n hX dX10_isRead_71 rfl (Nat.le_of_ble_eq_true rfl) rfl ?_
          refine V_goto (tgt := 12) hX dX10_isRead_72 (by decide) ?_
          refine V_mask [true, true] ?_
          exact ih _ _ hr
        · rw [if_pos h54] at hr
          refine V_aload_n hX dX10_isRead_57 rfl rfl ?_
          refine G_RX10_175 hX dX10_isRead_58 ?_
          refine V_bipush hX dX10_isRead_61 bp_8 ?_
          refine V_icmp_ge (tgt := 70) hX dX10_isRead_63 (by decide) (fun h63 => ?_) (fun h63 => ?_)
          · rw [if_pos h63] at hr
            refine V_iconst hX dX10_isRead_70 ic_0 ?_
            refine V_istore_n hX dX10_isRead_71 rfl (Nat.le_of_ble_eq_true rfl) rfl ?_
            refine V_goto (tgt := 12) hX dX10_isRead_72 (by decide) ?_
            refine V_mask [true, true] ?_
            exact ih _ _ hr
          · rw [if_neg h63] at hr
            refine V_iconst hX dX10_isRead_66 ic_1 ?_
            refine V_goto (tgt := 71) hX dX10_isRead_67 (by decide) ?_
            refine V_istore_n hX dX10_isRead_71 rfl (Nat.le_of_ble_eq_true rfl) rfl ?_
            refine V_goto (tgt := 12) hX dX10_isRead_72 (by decide) ?_
            refine V_mask [true, true] ?_
            exact ih _ _ hr
      · rw [if_pos h27] at hr
        refine V_iconst hX dX10_isRead_30 ic_0 ?_
        cases hr
        exact V_iret hX hE rfl dX10_isRead_31
set_option maxRecDepth 100000 in
set_option maxHeartbeats 4000000 in
theorem c_X10_isRead {d : Nat} (hd9 : 5 ≤ d) {w : Wd} {r : (Int32 × Wd)} (hr : f_X10_isRead w = some r) : Con d yX10_isRead cX10_isRead 2 (some .boolean) [.ref 33] w (some (.int r.1)) r.2 := by
  refine Con_of (by decide) (Nat.le_of_ble_eq_true rfl) (fun X hX hE => ?_)
  have hX : bOk cX10_isRead 2 RX10 d X := hX
  show bV X 0 [some (.ref 33), none] [] w
  obtain ⟨d, rfl⟩ : ∃ e, d = e + 1 := ⟨d - 1, by omega⟩
  unfold f_X10_isRead at hr
  refine V_aload_n hX dX10_isRead_0 rfl rfl ?_
  refine V_iconst hX dX10_isRead_1 ic_0 ?_
  refine P_RX10_102 hX dX10_isRead_2 ?_
  refine V_aload_n hX dX10_isRead_5 rfl rfl ?_
  refine V_iconst hX dX10_isRead_6 ic_0 ?_
  refine P_RX10_175 hX dX10_isRead_7 ?_
  refine V_iconst hX dX10_isRead_10 ic_1 ?_
  refine V_istore_n hX dX10_isRead_11 rfl (Nat.le_of_ble_eq_true rfl) rfl ?_
  refine V_mask [true, true] ?_
  exact v_X10_isRead_12 hd9 hX hE _ _ _ hr
def f_X10_fault (w : Wd) : Option (Int32 × Wd) := Option.bind (f_X10_isRead w) fun q1 =>
    if q1.1 = 0 then
      (some ((q1.2.1 33 22), q1.2))
    else
      (some ((-1), q1.2))
set_option maxRecDepth 100000 in
set_option maxHeartbeats 4000000 in
theorem c_X10_fault {d : Nat} (hd9 : 6 ≤ d) {w : Wd} {r : (Int32 × Wd)} (hr : f_X10_fault w = some r) : Con d yX10_fault cX10_fault 1 (some .int) [.ref 33] w (some (.int r.1)) r.2 := by
  refine Con_of (by decide) (Nat.le_of_ble_eq_true rfl) (fun X hX hE => ?_)
  have hX : bOk cX10_fault 1 RX10 d X := hX
  show bV X 0 [some (.ref 33)] [] w
  obtain ⟨d, rfl⟩ : ∃ e, d = e + 1 := ⟨d - 1, by omega⟩
  unfold f_X10_fault at hr
  refine V_aload_n hX dX10_fault_0 rfl rfl ?_
  obtain ⟨q1, hq1, hr⟩ := bnd hr
  refine C_RX10_181 hX (c_X10_isRead (by omega) hq1) (Nat.le_of_ble_eq_true rfl) dX10_fault_1 ?_
  refine V_if_eq (tgt := 11) hX dX10_fault_4 (by decide) (fun h4 => ?_) (fun h4 => ?_)
  · rw [if_pos h4] at hr
    refine V_aload_n hX dX10_fault_11 rfl rfl ?_
    refine G_RX10_130 hX dX10_fault_12 ?_
    cases hr
    exact V_iret hX hE rfl dX10_fault_15
  · rw [if_neg h4] at hr
    refine V_iconst hX dX10_fault_7 ic_m1 ?_
    refine V_goto (tgt := 15) hX dX10_fault_8 (by decide) ?_
    cases hr
    exact V_iret hX hE rfl dX10_fault_15
def f_X10_place (p0 : Int32) (p1 : Int32) (p2 : Int32) (p3 : Int32) (p4 : Int32) (w : Wd) : Option Wd := if inB p0 14 then (if inB p0 14 then (if inB p0 14 then (if inB p0 14 then (some (wS (wS (wS (wS w 35 (ix p0) p1) 36 (ix p0) p2) 37 (ix p0) p3) 38 (ix p0) p4)) else none) else none) else none) else none
set_option maxRecDepth 100000 in
set_option maxHeartbeats 4000000 in
theorem c_X10_place {d : Nat} (hd9 : 0 ≤ d) {p0 : Int32} {p1 : Int32} {p2 : Int32} {p3 : Int32} {p4 : Int32} {w : Wd} {r : Wd} (hr : f_X10_place p0 p1 p2 p3 p4 w = some r) : Con d yX10_place cX10_place 6 none [.ref 33, .int p0, .int p1, .int p2, .int p3, .int p4] w none r := by
  refine Con_of (by decide) (Nat.le_of_ble_eq_true rfl) (fun X hX hE => ?_)
  have hX : bOk cX10_place 6 RX10 d X := hX
  show bV X 0 [some (.ref 33), some (.int p0), some (.int p1), some (.int p2), some (.int p3), some (.int p4)] [] w
  unfold f_X10_place at hr
  refine V_aload_n hX dX10_place_0 rfl rfl ?_
  refine G_RX10_13 hX dX10_place_1 ?_
  refine V_iload_n hX dX10_place_4 rfl rfl ?_
  refine V_iload_n hX dX10_place_5 rfl rfl ?_
  obtain ⟨hn6, hr⟩ := ifn hr
  refine V_iast hX (Nat.le_of_ble_eq_true rfl) lay_35 (inB_in hn6) dX10_place_6 ?_
  refine V_aload_n hX dX10_place_7 rfl rfl ?_
  refine G_RX10_16 hX dX10_place_8 ?_
  refine V_iload_n hX dX10_place_11 rfl rfl ?_
  refine V_iload_n hX dX10_place_12 rfl rfl ?_
  obtain ⟨hn13, hr⟩ := ifn hr
  refine V_iast hX (Nat.le_of_ble_eq_true rfl) lay_36 (inB_in hn13) dX10_place_13 ?_
  refine V_aload_n hX dX10_place_14 rfl rfl ?_
  refine G_RX10_19 hX dX10_place_15 ?_
  refine V_iload_n hX dX10_place_18 rfl rfl ?_
  refine V_iload hX dX10_place_19 rfl ?_
  obtain ⟨hn21, hr⟩ := ifn hr
  refine V_iast hX (Nat.le_of_ble_eq_true rfl) lay_37 (inB_in hn21) dX10_place_21 ?_
  refine V_aload_n hX dX10_place_22 rfl rfl ?_
  refine G_RX10_22 hX dX10_place_23 ?_
  refine V_iload_n hX dX10_place_26 rfl rfl ?_
  refine V_iload hX dX10_place_27 rfl ?_
  obtain ⟨hn29, hr⟩ := ifn hr
  refine V_iast hX (Nat.le_of_ble_eq_true rfl) lay_38 (inB_in hn29) dX10_place_29 ?_
  cases hr
  exact V_vret hX hE dX10_place_30
def f_X10_doBundle_126 (s1 : Int32) (s2 : Int32) (s3 : Int32) (s4 : Int32) (s5 : Int32) (w : Wd) : Option Wd := Option.bind (f_X10_place s1 s2 s3 s4 s5 w) fun q1 =>
    some q1
def f_X10_doBundle_107 (s1 : Int32) (s2 : Int32) (s3 : Int32) (s4 : Int32) (x2 : Int32) (x3 : Int32) (w : Wd) : Option Wd := Option.bind (f_X10_of x2 0 w) fun q1 =>
    if q1.1 = 0 then
      (f_X10_doBundle_126 s1 s2 s3 s4 x3 q1.2)
    else
      (Option.bind (f_X10_of x2 3 q1.2) fun q2 =>
      f_X10_doBundle_126 s1 s2 s3 s4 q2.1 q2.2)
def f_X10_doBundle_23 : Nat → Int32 → Int32 → Int32 → Wd → Option Wd
  | 0, _, _, _, _ => none
  | n + 1, x1, x2, x3, w => if 7 ≤ x3 then
        (Option.bind (f_X10_of x2 1 w) fun q1 =>
        Option.bind (f_X10_of x2 2 q1.2) fun q2 =>
        if inB (x1 + 2) 88 then (if inB (x1 + 3) 88 then (Option.bind (f_X10_of x2 0 q2.2) fun q3 =>
        if q3.1 = 0 then
          (Option.bind (f_X10_of x2 3 q3.2) fun q4 =>
          f_X10_doBundle_107 x2 (q2.2.1 45 (ix (x1 + 2))) (q2.2.1 45 (ix (x1 + 3))) q4.1 x2 (q1.1 * q2.1) q4.2)
        else
          (f_X10_doBundle_107 x2 (q2.2.1 45 (ix (x1 + 2))) (q2.2.1 45 (ix (x1 + 3))) (q1.1 * q2.1) x2 (q1.1 * q2.1) q3.2)) else none) else none)
      else
        (if inB ((x1 + 4) + x3) 88 then (if inB ((7 * x2) + x3) 56 then (f_X10_doBundle_23 n x1 x2 (x3 + 1) (wS w 34 (ix ((7 * x2) + x3)) (w.1 45 (ix ((x1 + 4) + x3))))) else none) else none)
def f_X10_doBundle (p0 : Int32) (w : Wd) : Option Wd := if inB (p0 + 1) 88 then (f_X10_doBundle_23 fu p0 (w.1 45 (ix (p0 + 1))) 0 (wS w 33 0 ((w.1 33 0) ||| (jshl 1 (w.1 45 (ix (p0 + 1))))))) else none
set_option maxRecDepth 100000 in
set_option maxHeartbeats 4000000 in
theorem v_X10_doBundle_126 {d : Nat} (hd9 : 1 ≤ d) {X : bX} (hX : bOk cX10_doBundle 4 RX10 d X) {r : Wd} (hE : bEnd none none r X) : ∀ (s1 : Int32) (s2 : Int32) (s3 : Int32) (s4 : Int32) (s5 : Int32) (w : Wd), f_X10_doBundle_126 s1 s2 s3 s4 s5 w = some r → bV X 126 [none, none, none, none] [.int s5, .int s4, .int s3, .int s2, .int s1, .ref 33] w := by
  intro s1 s2 s3 s4 s5 w hr
  obtain ⟨d, rfl⟩ : ∃ e, d = e + 1 := ⟨d - 1, by omega⟩
  unfold f_X10_doBundle_126 at hr
  obtain ⟨q1, hq1, hr⟩ := bnd hr
  refine C_RX10_188 hX (c_X10_place (by omega) hq1) (Nat.le_of_ble_eq_true rfl) dX10_doBundle_126 ?_
  cases hr
  exact V_vret hX hE dX10_doBundle_129
set_option maxRecDepth 100000 in
set_option maxHeartbeats 4000000 in
theorem v_X10_doBundle_107 {d : Nat} (hd9 : 1 ≤ d) {X : bX} (hX : bOk cX10_doBundle 4 RX10 d X) {r : Wd} (hE : bEnd none none r X) : ∀ (s1 : Int32) (s2 : Int32) (s3 : Int32) (s4 : Int32) (x2 : Int32) (x3 : Int32) (w : Wd), f_X10_doBundle_107 s1 s2 s3 s4 x2 x3 w = some r → bV X 107 [some (.ref 33), none, some (.int x2), some (.int x3)] [.int s4, .int s3, .int s2, .int s1, .ref 33] w := by
  intro s1 s2 s3 s4 x2 x3 w hr
  obtain ⟨d, rfl⟩ : ∃ e, d = e + 1 := ⟨d - 1, by omega⟩
  unfold f_X10_doBundle_107 at hr
  refine V_aload_n hX dX10_doBundle_107 rfl rfl ?_
  refine V_iload_n hX dX10_doBundle_108 rfl rfl ?_
  refine V_iconst hX dX10_doBundle_109 ic_0 ?_
  obtain ⟨q1, hq1, hr⟩ := bnd hr
  refine C_RX10_184 hX (c_X10_of (by omega) hq1) (Nat.le_of_ble_eq_true rfl) dX10_doBundle_110 ?_
  refine V_if_ne (tgt := 120) hX dX10_doBundle_113 (by decide) (fun h113 => ?_) (fun h113 => ?_)
  · rw [if_neg h113] at hr
    refine V_aload_n hX dX10_doBundle_120 rfl rfl ?_
    refine V_iload_n hX dX10_doBundle_121 rfl rfl ?_
    refine V_iconst hX dX10_doBundle_122 ic_3 ?_
    obtain ⟨q2, hq2, hr⟩ := bnd hr
    refine C_RX10_184 hX (c_X10_of (by omega) hq2) (Nat.le_of_ble_eq_true rfl) dX10_doBundle_123 ?_
    refine V_mask [false, false, false, false] ?_
    exact v_X10_doBundle_126 hd9 hX hE _ _ _ _ _ _ hr
  · rw [if_pos h113] at hr
    refine V_iload_n hX dX10_doBundle_116 rfl rfl ?_
    refine V_goto (tgt := 126) hX dX10_doBundle_117 (by decide) ?_
    refine V_mask [false, false, false, false] ?_
    exact v_X10_doBundle_126 hd9 hX hE _ _ _ _ _ _ hr
set_option maxRecDepth 100000 in
set_option maxHeartbeats 4000000 in
theorem v_X10_doBundle_23 {d : Nat} (hd9 : 1 ≤ d) {X : bX} (hX : bOk cX10_doBundle 4 RX10 d X) {r : Wd} (hE : bEnd none none r X) : ∀ (n : Nat) (x1 : Int32) (x2 : Int32) (x3 : Int32) (w : Wd), f_X10_doBundle_23 n x1 x2 x3 w = some r → bV X 23 [some (.ref 33), some (.int x1), some (.int x2), some (.int x3)] [] w := by
  obtain ⟨d, rfl⟩ : ∃ e, d = e + 1 := ⟨d - 1, by omega⟩
  intro n
  induction n with
  | zero => intro x1 x2 x3 w hr; exact absurd hr (by simp [f_X10_doBundle_23])
  | succ n ih =>
    intro x1 x2 x3 w hr
    rw [f_X10_doBundle_23] at hr
    refine V_iload_n hX dX10_doBundle_23 rfl rfl ?_
    refine V_bipush hX dX10_doBundle_24 bp_7 ?_
    refine V_icmp_ge (tgt := 56) hX dX10_doBundle_26 (by decide) (fun h26 => ?_) (fun h26 => ?_)
    · rw [if_pos h26] at hr
      refine V_aload_n hX dX10_doBundle_56 rfl rfl ?_
      refine V_iload_n hX dX10_doBundle_57 rfl rfl ?_
      refine V_iconst hX dX10_doBundle_58 ic_1 ?_
      obtain ⟨q1, hq1, hr⟩ := bnd hr
      refine C_RX10_184 hX (c_X10_of (by omega) hq1) (Nat.le_of_ble_eq_true rfl) dX10_doBundle_59 ?_
      refine V_aload_n hX dX10_doBundle_62 rfl rfl ?_
      refine V_iload_n hX dX10_doBundle_63 rfl rfl ?_
      refine V_iconst hX dX10_doBundle_64 ic_2 ?_
      obtain ⟨q2, hq2, hr⟩ := bnd hr
      refine C_RX10_184 hX (c_X10_of (by omega) hq2) (Nat.le_of_ble_eq_true rfl) dX10_doBundle_65 ?_
      refine V_imul hX dX10_doBundle_68 ?_
      refine V_istore_n hX dX10_doBundle_69 rfl (Nat.le_of_ble_eq_true rfl) rfl ?_
      refine V_aload_n hX dX10_doBundle_70 rfl rfl ?_
      refine V_iload_n hX dX10_doBundle_71 rfl rfl ?_
      refine V_aload_n hX dX10_doBundle_72 rfl rfl ?_
      refine G_RX10_50 hX dX10_doBundle_73 ?_
      refine V_iload_n hX dX10_doBundle_76 rfl rfl ?_
      refine V_iconst hX dX10_doBundle_77 ic_2 ?_
      refine V_iadd hX dX10_doBundle_78 ?_
      obtain ⟨hn79, hr⟩ := ifn hr
      refine V_iald hX (Nat.le_of_ble_eq_true rfl) lay_45 (inB_in hn79) dX10_doBundle_79 ?_
      refine V_aload_n hX dX10_doBundle_80 rfl rfl ?_
      refine G_RX10_50 hX dX10_doBundle_81 ?_
      refine V_iload_n hX dX10_doBundle_84 rfl rfl ?_
      refine V_iconst hX dX10_doBundle_85 ic_3 ?_
      refine V_iadd hX dX10_doBundle_86 ?_
      obtain ⟨hn87, hr⟩ := ifn hr
      refine V_iald hX (Nat.le_of_ble_eq_true rfl) lay_45 (inB_in hn87) dX10_doBundle_87 ?_
      refine V_aload_n hX dX10_doBundle_88 rfl rfl ?_
      refine V_iload_n hX dX10_doBundle_89 rfl rfl ?_
      refine V_iconst hX dX10_doBundle_90 ic_0 ?_
      obtain ⟨q3, hq3, hr⟩ := bnd hr
      refine C_RX10_184 hX (c_X10_of (by omega) hq3) (Nat.le_of_ble_eq_true rfl) dX10_doBundle_91 ?_
      refine V_if_ne (tgt := 106) hX dX10_doBundle_94 (by decide) (fun h94 => ?_) (fun h94 => ?_)
      · rw [if_neg h94] at hr
        refine V_iload_n hX dX10_doBundle_106 rfl rfl ?_
        refine V_mask [true, false, true, true] ?_
        exact v_X10_doBundle_107 hd9 hX hE _ _ _ _ _ _ _ hr
      · rw [if_pos h94] at hr
        refine V_aload_n hX dX10_doBundle_97 rfl rfl ?_
        refine V_iload_n hX dX10_doBundle_98 rfl rfl ?_
        refine V_iconst hX dX10_doBundle_99 ic_3 ?_
        obtain ⟨q4, hq4, hr⟩ := bnd hr
        refine C_RX10_184 hX (c_X10_of (by omega) hq4) (Nat.le_of_ble_eq_true rfl) dX10_doBundle_100 ?_
        refine V_goto (tgt := 107) hX dX10_doBundle_103 (by decide) ?_
        refine V_mask [true, false, true, true] ?_
        exact v_X10_doBundle_107 hd9 hX hE _ _ _ _ _ _ _ hr
    · rw [if_neg h26] at hr
      refine V_aload_n hX dX10_doBundle_29 rfl rfl ?_
      refine G_RX10_7 hX dX10_doBundle_30 ?_
      refine V_bipush hX dX10_doBundle_33 bp_7 ?_
      refine V_iload_n hX dX10_doBundle_35 rfl rfl ?_
      refine V_imul hX dX10_doBundle_36 ?_
      refine V_iload_n hX dX10_doBundle_37 rfl rfl ?_
      refine V_iadd hX dX10_doBundle_38 ?_
      refine V_aload_n hX dX10_doBundle_39 rfl rfl ?_
      refine G_RX10_50 hX dX10_doBundle_40 ?_
      refine V_iload_n hX dX10_doBundle_43 rfl rfl ?_
      refine V_iconst hX dX10_doBundle_44 ic_4 ?_
      refine V_iadd hX dX10_doBundle_45 ?_
      refine V_iload_n hX dX10_doBundle_46 rfl rfl ?_
      refine V_iadd hX dX10_doBundle_47 ?_
      obtain ⟨hn48, hr⟩ := ifn hr
      refine V_iald hX (Nat.le_of_ble_eq_true rfl) lay_45 (inB_in hn48) dX10_doBundle_48 ?_
      obtain ⟨hn49, hr⟩ := ifn hr
      refine V_iast hX (Nat.le_of_ble_eq_true rfl) lay_34 (inB_in hn49) dX10_doBundle_49 ?_
      refine V_iinc hX dX10_doBundle_50 rfl (ii_1 _) (Nat.le_of_ble_eq_true rfl) rfl ?_
      refine V_goto (tgt := 23) hX dX10_doBundle_53 (by decide) ?_
      refine V_mask [true, true, true, true] ?_
      exact ih _ _ _ _ hr
set_option maxRecDepth 100000 in
set_option maxHeartbeats 4000000 in
theorem c_X10_doBundle {d : Nat} (hd9 : 1 ≤ d) {p0 : Int32} {w : Wd} {r : Wd} (hr : f_X10_doBundle p0 w = some r) : Con d yX10_doBundle cX10_doBundle 4 none [.ref 33, .int p0] w none r := by
  refine Con_of (by decide) (Nat.le_of_ble_eq_true rfl) (fun X hX hE => ?_)
  have hX : bOk cX10_doBundle 4 RX10 d X := hX
  show bV X 0 [some (.ref 33), some (.int p0), none, none] [] w
  obtain ⟨d, rfl⟩ : ∃ e, d = e + 1 := ⟨d - 1, by omega⟩
  unfold f_X10_doBundle at hr
  refine V_aload_n hX dX10_doBundle_0 rfl rfl ?_
  refine G_RX10_50 hX dX10_doBundle_1 ?_
  refine V_iload_n hX dX10_doBundle_4 rfl rfl ?_
  refine V_iconst hX dX10_doBundle_5 ic_1 ?_
  refine V_iadd hX dX10_doBundle_6 ?_
  obtain ⟨hn7, hr⟩ := ifn hr
  refine V_iald hX (Nat.le_of_ble_eq_true rfl) lay_45 (inB_in hn7) dX10_doBundle_7 ?_
  refine V_istore_n hX dX10_doBundle_8 rfl (Nat.le_of_ble_eq_true rfl) rfl ?_
  refine V_aload_n hX dX10_doBundle_9 rfl rfl ?_
  refine V_aload_n hX dX10_doBundle_10 rfl rfl ?_
  refine G_RX10_90 hX dX10_doBundle_11 ?_
  refine V_iconst hX dX10_doBundle_14 ic_1 ?_
  refine V_iload_n hX dX10_doBundle_15 rfl rfl ?_
  refine V_ishl hX dX10_doBundle_16 ?_
  refine V_ior hX dX10_doBundle_17 ?_
  refine P_RX10_90 hX dX10_doBundle_18 ?_
  refine V_iconst hX dX10_doBundle_21 ic_0 ?_
  refine V_istore_n hX dX10_doBundle_22 rfl (Nat.le_of_ble_eq_true rfl) rfl ?_
  refine V_mask [true, true, true, true] ?_
  exact v_X10_doBundle_23 hd9 hX hE _ _ _ _ _ hr
def f_X10_doLine_207 : Nat → Int32 → Int32 → Int32 → Wd → Option Wd
  | 0, _, _, _, _ => none
  | n + 1, x1, x2, x4, w => if 4 ≤ x4 then
        (some w)
      else
        (if inB ((x1 + 2) + x4) 88 then (if inB ((4 * x2) + x4) 52 then (f_X10_doLine_207 n x1 x2 (x4 + 1) (wS w 43 (ix ((4 * x2) + x4)) (w.1 45 (ix ((x1 + 2) + x4))))) else none) else none)
def f_X10_doLine (p0 : Int32) (w : Wd) : Option Wd := if inB (p0 + 1) 88 then (if inB (p0 + 2) 88 then (if inB p0 88 then (if (w.1 45 (ix p0)) = 0 then
      (Option.bind (f_X10_doBundle p0 w) fun q1 =>
      some q1)
    else if (w.1 45 (ix p0)) = 1 then
      (if inB (p0 + 3) 88 then (if inB (p0 + 4) 88 then (if inB (p0 + 5) 88 then (Option.bind (f_X10_place (w.1 45 (ix (p0 + 1))) (w.1 45 (ix (p0 + 2))) ((wS w 33 0 ((w.1 33 0) ||| (jshl 1 (w.1 45 (ix (p0 + 1)))))).1 45 (ix (p0 + 3))) ((wS w 33 0 ((w.1 33 0) ||| (jshl 1 (w.1 45 (ix (p0 + 1)))))).1 45 (ix (p0 + 4))) ((wS w 33 0 ((w.1 33 0) ||| (jshl 1 (w.1 45 (ix (p0 + 1)))))).1 45 (ix (p0 + 5))) (wS w 33 0 ((w.1 33 0) ||| (jshl 1 (w.1 45 (ix (p0 + 1))))))) fun q1 =>
      some q1) else none) else none) else none)
    else if (w.1 45 (ix p0)) = 2 then
      (if inB (w.1 45 (ix (p0 + 1))) 14 then (if inB (p0 + 3) 88 then (if inB (w.1 45 (ix (p0 + 1))) 14 then (some (wS (wS w 39 (ix (w.1 45 (ix (p0 + 1)))) (w.1 45 (ix (p0 + 2)))) 40 (ix (w.1 45 (ix (p0 + 1)))) ((wS w 39 (ix (w.1 45 (ix (p0 + 1)))) (w.1 45 (ix (p0 + 2)))).1 45 (ix (p0 + 3))))) else none) else none) else none)
    else if (w.1 45 (ix p0)) = 3 then
      (if inB (w.1 45 (ix (p0 + 1))) 14 then (if ((jshr (w.1 41 (ix (w.1 45 (ix (p0 + 1))))) (w.1 45 (ix (p0 + 2)))) &&& 1) = 0 then
        (if 24 ≤ (w.1 33 8) then
          (some w)
        else
          (if inB (w.1 45 (ix (p0 + 1))) 14 then (if inB (w.1 45 (ix (p0 + 1))) 14 then (some (wS (wS w 41 (ix (w.1 45 (ix (p0 + 1)))) ((w.1 41 (ix (w.1 45 (ix (p0 + 1))))) ||| (jshl 1 (w.1 45 (ix (p0 + 2)))))) 33 8 (((wS w 41 (ix (w.1 45 (ix (p0 + 1)))) ((w.1 41 (ix (w.1 45 (ix (p0 + 1))))) ||| (jshl 1 (w.1 45 (ix (p0 + 2)))))).1 33 8) + 1))) else none) else none))
      else
        (some w)) else none)
    else if (w.1 45 (ix p0)) = 4 then
      (f_X10_doLine_207 fu p0 (w.1 45 (ix (p0 + 1))) 0 (wS w 33 11 ((w.1 33 11) ||| (jshl 1 (w.1 45 (ix (p0 + 1)))))))
    else if (w.1 45 (ix p0)) = 5 then
      (some (wS w 33 13 (w.1 45 (ix (p0 + 1)))))
    else (some (wS w 33 14 (w.1 45 (ix (p0 + 1)))))) else none) else none) else none
set_option maxRecDepth 100000 in
set_option maxHeartbeats 4000000 in
theorem v_X10_doLine_207 {d : Nat} (hd9 : 2 ≤ d) {X : bX} (hX : bOk cX10_doLine 5 RX10 d X) {r : Wd} (hE : bEnd none none r X) : ∀ (n : Nat) (x1 : Int32) (x2 : Int32) (x4 : Int32) (w : Wd), f_X10_doLine_207 n x1 x2 x4 w = some r → bV X 207 [some (.ref 33), some (.int x1), some (.int x2), none, some (.int x4)] [] w := by
  obtain ⟨d, rfl⟩ : ∃ e, d = e + 1 := ⟨d - 1, by omega⟩
  intro n
  induction n with
  | zero => intro x1 x2 x4 w hr; exact absurd hr (by simp [f_X10_doLine_207])
  | succ n ih =>
    intro x1 x2 x4 w hr
    rw [f_X10_doLine_207] at hr
    refine V_iload hX dX10_doLine_207 rfl ?_
    refine V_iconst hX dX10_doLine_209 ic_4 ?_
    refine V_icmp_ge (tgt := 241) hX dX10_doLine_210 (by decide) (fun h210 => ?_) (fun h210 => ?_)
    · rw [if_pos h210] at hr
      refine V_goto (tgt := 257) hX dX10_doLine_241 (by decide) ?_
      cases hr
      exact V_vret hX hE dX10_doLine_257
    · rw [if_neg h210] at hr
      refine V_aload_n hX dX10_doLine_213 rfl rfl ?_
      refine G_RX10_37 hX dX10_doLine_214 ?_
      refine V_iconst hX dX10_doLine_217 ic_4 ?_
      refine V_iload_n hX dX10_doLine_218 rfl rfl ?_
      refine V_imul hX dX10_doLine_219 ?_
      refine V_iload hX dX10_doLine_220 rfl ?_
      refine V_iadd hX dX10_doLine_222 ?_
      refine V_aload_n hX dX10_doLine_223 rfl rfl ?_
      refine G_RX10_50 hX dX10_doLine_224 ?_
      refine V_iload_n hX dX10_doLine_227 rfl rfl ?_
      refine V_iconst hX dX10_doLine_228 ic_2 ?_
      refine V_iadd hX dX10_doLine_229 ?_
      refine V_iload hX dX10_doLine_230 rfl ?_
      refine V_iadd hX dX10_doLine_232 ?_
      obtain ⟨hn233, hr⟩ := ifn hr
      refine V_iald hX (Nat.le_of_ble_eq_true rfl) lay_45 (inB_in hn233) dX10_doLine_233 ?_
      obtain ⟨hn234, hr⟩ := ifn hr
      refine V_iast hX (Nat.le_of_ble_eq_true rfl) lay_43 (inB_in hn234) dX10_doLine_234 ?_
      refine V_iinc hX dX10_doLine_235 rfl (ii_1 _) (Nat.le_of_ble_eq_true rfl) rfl ?_
      refine V_goto (tgt := 207) hX dX10_doLine_238 (by decide) ?_
      refine V_mask [true, true, true, false, true] ?_
      exact ih _ _ _ _ hr
set_option maxRecDepth 100000 in
set_option maxHeartbeats 4000000 in
theorem c_X10_doLine {d : Nat} (hd9 : 2 ≤ d) {p0 : Int32} {w : Wd} {r : Wd} (hr : f_X10_doLine p0 w = some r) : Con d yX10_doLine cX10_doLine 5 none [.ref 33, .int p0] w none r := by
  refine Con_of (by decide) (Nat.le_of_ble_eq_true rfl) (fun X hX hE => ?_)
  have hX : bOk cX10_doLine 5 RX10 d X := hX
  show bV X 0 [some (.ref 33), some (.int p0), none, none, none] [] w
  obtain ⟨d, rfl⟩ : ∃ e, d = e + 1 := ⟨d - 1, by omega⟩
  unfold f_X10_doLine at hr
  refine V_aload_n hX dX10_doLine_0 rfl rfl ?_
  refine G_RX10_50 hX dX10_doLine_1 ?_
  refine V_iload_n hX dX10_doLine_4 rfl rfl ?_
  refine V_iconst hX dX10_doLine_5 ic_1 ?_
  refine V_iadd hX dX10_doLine_6 ?_
  obtain ⟨hn7, hr⟩ := ifn hr
  refine V_iald hX (Nat.le_of_ble_eq_true rfl) lay_45 (inB_in hn7) dX10_doLine_7 ?_
  refine V_istore_n hX dX10_doLine_8 rfl (Nat.le_of_ble_eq_true rfl) rfl ?_
  refine V_aload_n hX dX10_doLine_9 rfl rfl ?_
  refine G_RX10_50 hX dX10_doLine_10 ?_
  refine V_iload_n hX dX10_doLine_13 rfl rfl ?_
  refine V_iconst hX dX10_doLine_14 ic_2 ?_
  refine V_iadd hX dX10_doLine_15 ?_
  obtain ⟨hn16, hr⟩ := ifn hr
  refine V_iald hX (Nat.le_of_ble_eq_true rfl) lay_45 (inB_in hn16) dX10_doLine_16 ?_
  refine V_istore_n hX dX10_doLine_17 rfl (Nat.le_of_ble_eq_true rfl) rfl ?_
  refine V_aload_n hX dX10_doLine_18 rfl rfl ?_
  refine G_RX10_50 hX dX10_doLine_19 ?_
  refine V_iload_n hX dX10_doLine_22 rfl rfl ?_
  obtain ⟨hn23, hr⟩ := ifn hr
  refine V_iald hX (Nat.le_of_ble_eq_true rfl) lay_45 (inB_in hn23) dX10_doLine_23 ?_
  by_cases hs0 : (w.1 45 (ix p0)) = 0
  · rw [if_pos hs0] at hr
    refine V_tableIn (tgt := 64) hX dX10_doLine_24 (by rw [hs0]; decide) (by rw [hs0]; decide) (by rw [hs0]; rfl) (by decide) ?_
    refine V_aload_n hX dX10_doLine_64 rfl rfl ?_
    refine V_iload_n hX dX10_doLine_65 rfl rfl ?_
    obtain ⟨q1, hq1, hr⟩ := bnd hr
    refine C_RX10_192 hX (c_X10_doBundle (by omega) hq1) (Nat.le_of_ble_eq_true rfl) dX10_doLine_66 ?_
    refine V_goto (tgt := 257) hX dX10_doLine_69 (by decide) ?_
    cases hr
    exact V_vret hX hE dX10_doLine_257
  rw [if_neg hs0] at hr
  by_cases hs1 : (w.1 45 (ix p0)) = 1
  · rw [if_pos hs1] at hr
    refine V_tableIn (tgt := 72) hX dX10_doLine_24 (by rw [hs1]; decide) (by rw [hs1]; decide) (by rw [hs1]; rfl) (by decide) ?_
    refine V_aload_n hX dX10_doLine_72 rfl rfl ?_
    refine V_aload_n hX dX10_doLine_73 rfl rfl ?_
    refine G_RX10_90 hX dX10_doLine_74 ?_
    refine V_iconst hX dX10_doLine_77 ic_1 ?_
    refine V_iload_n hX dX10_doLine_78 rfl rfl ?_
    refine V_ishl hX dX10_doLine_79 ?_
    refine V_ior hX dX10_doLine_80 ?_
    refine P_RX10_90 hX dX10_doLine_81 ?_
    refine V_aload_n hX dX10_doLine_84 rfl rfl ?_
    refine V_iload_n hX dX10_doLine_85 rfl rfl ?_
    refine V_iload_n hX dX10_doLine_86 rfl rfl ?_
    refine V_aload_n hX dX10_doLine_87 rfl rfl ?_
    refine G_RX10_50 hX dX10_doLine_88 ?_
    refine V_iload_n hX dX10_doLine_91 rfl rfl ?_
    refine V_iconst hX dX10_doLine_92 ic_3 ?_
    refine V_iadd hX dX10_doLine_93 ?_
    obtain ⟨hn94, hr⟩ := ifn hr
    refine V_iald hX (Nat.le_of_ble_eq_true rfl) lay_45 (inB_in hn94) dX10_doLine_94 ?_
    refine V_aload_n hX dX10_doLine_95 rfl rfl ?_
    refine G_RX10_50 hX dX10_doLine_96 ?_
    refine V_iload_n hX dX10_doLine_99 rfl rfl ?_
    refine V_iconst hX dX10_doLine_100 ic_4 ?_
    refine V_iadd hX dX10_doLine_101 ?_
    obtain ⟨hn102, hr⟩ := ifn hr
    refine V_iald hX (Nat.le_of_ble_eq_true rfl) lay_45 (inB_in hn102) dX10_doLine_102 ?_
    refine V_aload_n hX dX10_doLine_103 rfl rfl ?_
    refine G_RX10_50 hX dX10_doLine_104 ?_
    refine V_iload_n hX dX10_doLine_107 rfl rfl ?_
    refine V_iconst hX dX10_doLine_108 ic_5 ?_
    refine V_iadd hX dX10_doLine_109 ?_
    obtain ⟨hn110, hr⟩ := ifn hr
    refine V_iald hX (Nat.le_of_ble_eq_true rfl) lay_45 (inB_in hn110) dX10_doLine_110 ?_
    obtain ⟨q1, hq1, hr⟩ := bnd hr
    refine C_RX10_188 hX (c_X10_place (by omega) hq1) (Nat.le_of_ble_eq_true rfl) dX10_doLine_111 ?_
    refine V_goto (tgt := 257) hX dX10_doLine_114 (by decide) ?_
    cases hr
    exact V_vret hX hE dX10_doLine_257
  rw [if_neg hs1] at hr
  by_cases hs2 : (w.1 45 (ix p0)) = 2
  · rw [if_pos hs2] at hr
    refine V_tableIn (tgt := 117) hX dX10_doLine_24 (by rw [hs2]; decide) (by rw [hs2]; decide) (by rw [hs2]; rfl) (by decide) ?_
    refine V_aload_n hX dX10_doLine_117 rfl rfl ?_
    refine G_RX10_25 hX dX10_doLine_118 ?_
    refine V_iload_n hX dX10_doLine_121 rfl rfl ?_
    refine V_iload_n hX dX10_doLine_122 rfl rfl ?_
    obtain ⟨hn123, hr⟩ := ifn hr
    refine V_iast hX (Nat.le_of_ble_eq_true rfl) lay_39 (inB_in hn123) dX10_doLine_123 ?_
    refine V_aload_n hX dX10_doLine_124 rfl rfl ?_
    refine G_RX10_28 hX dX10_doLine_125 ?_
    refine V_iload_n hX dX10_doLine_128 rfl rfl ?_
    refine V_aload_n hX dX10_doLine_129 rfl rfl ?_
    refine G_RX10_50 hX dX10_doLine_130 ?_
    refine V_iload_n hX dX10_doLine_133 rfl rfl ?_
    refine V_iconst hX dX10_doLine_134 ic_3 ?_
    refine V_iadd hX dX10_doLine_135 ?_
    obtain ⟨hn136, hr⟩ := ifn hr
    refine V_iald hX (Nat.le_of_ble_eq_true rfl) lay_45 (inB_in hn136) dX10_doLine_136 ?_
    obtain ⟨hn137, hr⟩ := ifn hr
    refine V_iast hX (Nat.le_of_ble_eq_true rfl) lay_40 (inB_in hn137) dX10_doLine_137 ?_
    refine V_goto (tgt := 257) hX dX10_doLine_138 (by decide) ?_
    cases hr
    exact V_vret hX hE dX10_doLine_257
  rw [if_neg hs2] at hr
  by_cases hs3 : (w.1 45 (ix p0)) = 3
  · rw [if_pos hs3] at hr
    refine V_tableIn (tgt := 141) hX dX10_doLine_24 (by rw [hs3]; decide) (by rw [hs3]; decide) (by rw [hs3]; rfl) (by decide) ?_
    refine V_aload_n hX dX10_doLine_141 rfl rfl ?_
    refine G_RX10_31 hX dX10_doLine_142 ?_
    refine V_iload_n hX dX10_doLine_145 rfl rfl ?_
    obtain ⟨hn146, hr⟩ := ifn hr
    refine V_iald hX (Nat.le_of_ble_eq_true rfl) lay_41 (inB_in hn146) dX10_doLine_146 ?_
    refine V_iload_n hX dX10_doLine_147 rfl rfl ?_
    refine V_ishr hX dX10_doLine_148 ?_
    refine V_iconst hX dX10_doLine_149 ic_1 ?_
    refine V_iand hX dX10_doLine_150 ?_
    refine V_if_ne (tgt := 257) hX dX10_doLine_151 (by decide) (fun h151 => ?_) (fun h151 => ?_)
    · rw [if_neg h151] at hr
      cases hr
      exact V_vret hX hE dX10_doLine_257
    · rw [if_pos h151] at hr
      refine V_aload_n hX dX10_doLine_154 rfl rfl ?_
      refine G_RX10_196 hX dX10_doLine_155 ?_
      refine V_bipush hX dX10_doLine_158 bp_24 ?_
      refine V_icmp_ge (tgt := 257) hX dX10_doLine_160 (by decide) (fun h160 => ?_) (fun h160 => ?_)
      · rw [if_pos h160] at hr
        cases hr
        exact V_vret hX hE dX10_doLine_257
      · rw [if_neg h160] at hr
        refine V_aload_n hX dX10_doLine_163 rfl rfl ?_
        refine G_RX10_31 hX dX10_doLine_164 ?_
        refine V_iload_n hX dX10_doLine_167 rfl rfl ?_
        refine V_aload_n hX dX10_doLine_168 rfl rfl ?_
        refine G_RX10_31 hX dX10_doLine_169 ?_
        refine V_iload_n hX dX10_doLine_172 rfl rfl ?_
        obtain ⟨hn173, hr⟩ := ifn hr
        refine V_iald hX (Nat.le_of_ble_eq_true rfl) lay_41 (inB_in hn173) dX10_doLine_173 ?_
        refine V_iconst hX dX10_doLine_174 ic_1 ?_
        refine V_iload_n hX dX10_doLine_175 rfl rfl ?_
        refine V_ishl hX dX10_doLine_176 ?_
        refine V_ior hX dX10_doLine_177 ?_
        obtain ⟨hn178, hr⟩ := ifn hr
        refine V_iast hX (Nat.le_of_ble_eq_true rfl) lay_41 (inB_in hn178) dX10_doLine_178 ?_
        refine V_aload_n hX dX10_doLine_179 rfl rfl ?_
        refine V_dup hX dX10_doLine_180 rfl ?_
        refine G_RX10_196 hX dX10_doLine_181 ?_
        refine V_iconst hX dX10_doLine_184 ic_1 ?_
        refine V_iadd hX dX10_doLine_185 ?_
        refine P_RX10_196 hX dX10_doLine_186 ?_
        refine V_goto (tgt := 257) hX dX10_doLine_189 (by decide) ?_
        cases hr
        exact V_vret hX hE dX10_doLine_257
  rw [if_neg hs3] at hr
  by_cases hs4 : (w.1 45 (ix p0)) = 4
  · rw [if_pos hs4] at hr
    refine V_tableIn (tgt := 192) hX dX10_doLine_24 (by rw [hs4]; decide) (by rw [hs4]; decide) (by rw [hs4]; rfl) (by decide) ?_
    refine V_aload_n hX dX10_doLine_192 rfl rfl ?_
    refine V_aload_n hX dX10_doLine_193 rfl rfl ?_
    refine G_RX10_199 hX dX10_doLine_194 ?_
    refine V_iconst hX dX10_doLine_197 ic_1 ?_
    refine V_iload_n hX dX10_doLine_198 rfl rfl ?_
    refine V_ishl hX dX10_doLine_199 ?_
    refine V_ior hX dX10_doLine_200 ?_
    refine P_RX10_199 hX dX10_doLine_201 ?_
    refine V_iconst hX dX10_doLine_204 ic_0 ?_
    refine V_istore hX dX10_doLine_205 (Nat.le_of_ble_eq_true rfl) rfl ?_
    refine V_mask [true, true, true, false, true] ?_
    exact v_X10_doLine_207 hd9 hX hE _ _ _ _ _ hr
  rw [if_neg hs4] at hr
  by_cases hs5 : (w.1 45 (ix p0)) = 5
  · rw [if_pos hs5] at hr
    refine V_tableIn (tgt := 244) hX dX10_doLine_24 (by rw [hs5]; decide) (by rw [hs5]; decide) (by rw [hs5]; rfl) (by decide) ?_
    refine V_aload_n hX dX10_doLine_244 rfl rfl ?_
    refine V_iload_n hX dX10_doLine_245 rfl rfl ?_
    refine P_RX10_40 hX dX10_doLine_246 ?_
    refine V_goto (tgt := 257) hX dX10_doLine_249 (by decide) ?_
    cases hr
    exact V_vret hX hE dX10_doLine_257
  rw [if_neg hs5] at hr
  refine V_tableOut (tgt := 252) hX dX10_doLine_24 (tb_out 5 (fun j hj => by rcases (show j = 0 ∨ j = 1 ∨ j = 2 ∨ j = 3 ∨ j = 4 ∨ j = 5 by omega) with rfl | rfl | rfl | rfl | rfl | rfl <;> assumption)) (by decide) ?_
  refine V_aload_n hX dX10_doLine_252 rfl rfl ?_
  refine V_iload_n hX dX10_doLine_253 rfl rfl ?_
  refine P_RX10_44 hX dX10_doLine_254 ?_
  cases hr
  exact V_vret hX hE dX10_doLine_257
def f_X10_parish_12 : Nat → Int32 → Wd → Option (Int32 × Wd)
  | 0, _, _ => none
  | n + 1, x1, w => if (w.1 33 23) ≤ x1 then
        (some (((wS w 33 15 0).1 33 23), (wS w 33 15 0)))
      else
        (Option.bind (f_X10_doLine (11 * x1) w) fun q1 =>
        f_X10_parish_12 n (x1 + 1) q1)
def f_X10_parish (w : Wd) : Option (Int32 × Wd) := Option.bind (f_X10_isRead w) fun q1 =>
    if q1.1 = 0 then
      (some ((-4), q1.2))
    else
      (f_X10_parish_12 fu 0 q1.2)
set_option maxRecDepth 100000 in
set_option maxHeartbeats 4000000 in
theorem v_X10_parish_12 {d : Nat} (hd9 : 6 ≤ d) {X : bX} (hX : bOk cX10_parish 2 RX10 d X) {r : (Int32 × Wd)} (hE : bEnd (some .int) (some (.int r.1)) r.2 X) : ∀ (n : Nat) (x1 : Int32) (w : Wd), f_X10_parish_12 n x1 w = some r → bV X 12 [some (.ref 33), some (.int x1)] [] w := by
  obtain ⟨d, rfl⟩ : ∃ e, d = e + 1 := ⟨d - 1, by omega⟩
  intro n
  induction n with
  | zero => intro x1 w hr; exact absurd hr (by simp [f_X10_parish_12])
  | succ n ih =>
    intro x1 w hr
    rw [f_X10_parish_12] at hr
    refine V_iload_n hX dX10_parish_12 rfl rfl ?_
    refine V_aload_n hX dX10_parish_13 rfl rfl ?_
    refine G_RX10_175 hX dX10_parish_14 ?_
    refine V_icmp_ge (tgt := 34) hX dX10_parish_17 (by decide) (fun h17 => ?_) (fun h17 => ?_)
    · rw [if_pos h17] at hr
      refine V_aload_n hX dX10_parish_34 rfl rfl ?_
      refine V_iconst hX dX10_parish_35 ic_0 ?_
      refine P_RX10_97 hX dX10_parish_36 ?_
      refine V_aload_n hX dX10_parish_39 rfl rfl ?_
      refine G_RX10_175 hX dX10_parish_40 ?_
      cases hr
      exact V_iret hX hE rfl dX10_parish_43
    · rw [if_neg h17] at hr
      refine V_aload_n hX dX10_parish_20 rfl rfl ?_
      refine V_bipush hX dX10_parish_21 bp_11 ?_
      refine V_iload_n hX dX10_parish_23 rfl rfl ?_
      refine V_imul hX dX10_parish_24 ?_
      obtain ⟨q1, hq1, hr⟩ := bnd hr
      refine C_RX10_202 hX (c_X10_doLine (by omega) hq1) (Nat.le_of_ble_eq_true rfl) dX10_parish_25 ?_
      refine V_iinc hX dX10_parish_28 rfl (ii_1 _) (Nat.le_of_ble_eq_true rfl) rfl ?_
      refine V_goto (tgt := 12) hX dX10_parish_31 (by decide) ?_
      refine V_mask [true, true] ?_
      exact ih _ _ hr
set_option maxRecDepth 100000 in
set_option maxHeartbeats 4000000 in
theorem c_X10_parish {d : Nat} (hd9 : 6 ≤ d) {w : Wd} {r : (Int32 × Wd)} (hr : f_X10_parish w = some r) : Con d yX10_parish cX10_parish 2 (some .int) [.ref 33] w (some (.int r.1)) r.2 := by
  refine Con_of (by decide) (Nat.le_of_ble_eq_true rfl) (fun X hX hE => ?_)
  have hX : bOk cX10_parish 2 RX10 d X := hX
  show bV X 0 [some (.ref 33), none] [] w
  obtain ⟨d, rfl⟩ : ∃ e, d = e + 1 := ⟨d - 1, by omega⟩
  unfold f_X10_parish at hr
  refine V_aload_n hX dX10_parish_0 rfl rfl ?_
  obtain ⟨q1, hq1, hr⟩ := bnd hr
  refine C_RX10_181 hX (c_X10_isRead (by omega) hq1) (Nat.le_of_ble_eq_true rfl) dX10_parish_1 ?_
  refine V_if_ne (tgt := 10) hX dX10_parish_4 (by decide) (fun h4 => ?_) (fun h4 => ?_)
  · rw [if_neg h4] at hr
    refine V_iconst hX dX10_parish_10 ic_0 ?_
    refine V_istore_n hX dX10_parish_11 rfl (Nat.le_of_ble_eq_true rfl) rfl ?_
    refine V_mask [true, true] ?_
    exact v_X10_parish_12 hd9 hX hE _ _ _ hr
  · rw [if_pos h4] at hr
    refine V_bipush hX dX10_parish_7 bp_m4 ?_
    cases hr
    exact V_iret hX hE rfl dX10_parish_9
def f_X10_yardsOf (p0 : Int32) (w : Wd) : Option (Int32 × Wd) := if inB p0 14 then (if inB p0 14 then (some (((w.1 37 (ix p0)) * (w.1 38 (ix p0))), w)) else none) else none
set_option maxRecDepth 100000 in
set_option maxHeartbeats 4000000 in
theorem c_X10_yardsOf {d : Nat} (hd9 : 0 ≤ d) {p0 : Int32} {w : Wd} {r : (Int32 × Wd)} (hr : f_X10_yardsOf p0 w = some r) : Con d yX10_yardsOf cX10_yardsOf 2 (some .int) [.ref 33, .int p0] w (some (.int r.1)) r.2 := by
  refine Con_of (by decide) (Nat.le_of_ble_eq_true rfl) (fun X hX hE => ?_)
  have hX : bOk cX10_yardsOf 2 RX10 d X := hX
  show bV X 0 [some (.ref 33), some (.int p0)] [] w
  unfold f_X10_yardsOf at hr
  refine V_aload_n hX dX10_yardsOf_0 rfl rfl ?_
  refine G_RX10_19 hX dX10_yardsOf_1 ?_
  refine V_iload_n hX dX10_yardsOf_4 rfl rfl ?_
  obtain ⟨hn5, hr⟩ := ifn hr
  refine V_iald hX (Nat.le_of_ble_eq_true rfl) lay_37 (inB_in hn5) dX10_yardsOf_5 ?_
  refine V_aload_n hX dX10_yardsOf_6 rfl rfl ?_
  refine G_RX10_22 hX dX10_yardsOf_7 ?_
  refine V_iload_n hX dX10_yardsOf_10 rfl rfl ?_
  obtain ⟨hn11, hr⟩ := ifn hr
  refine V_iald hX (Nat.le_of_ble_eq_true rfl) lay_38 (inB_in hn11) dX10_yardsOf_11 ?_
  refine V_imul hX dX10_yardsOf_12 ?_
  cases hr
  exact V_iret hX hE rfl dX10_yardsOf_13
def f_X10_bundle (p0 : Int32) (p1 : Int32) (w : Wd) : Option (Int32 × Wd) := Option.bind (f_X10_isBundle p0 w) fun q1 =>
    if q1.1 = 0 then
      (some ((-2), q1.2))
    else
      (Option.bind (f_X10_in p1 0 9 q1.2) fun q2 =>
      if q2.1 = 0 then
        (some ((-3), q2.2))
      else
        (if p1 = 0 then
          (if inB p0 14 then (some ((q2.2.1 35 (ix p0)), q2.2)) else none)
        else
          (if p1 = 1 then
            (if inB p0 14 then (some ((q2.2.1 36 (ix p0)), q2.2)) else none)
          else
            (if p1 = 9 then
              (Option.bind (f_X10_yardsOf p0 q2.2) fun q3 =>
              some (q3.1, q3.2))
            else
              (Option.bind (f_X10_of p0 (p1 - 2) q2.2) fun q3 =>
              some (q3.1, q3.2))))))
set_option maxRecDepth 100000 in
set_option maxHeartbeats 4000000 in
theorem c_X10_bundle {d : Nat} (hd9 : 3 ≤ d) {p0 : Int32} {p1 : Int32} {w : Wd} {r : (Int32 × Wd)} (hr : f_X10_bundle p0 p1 w = some r) : Con d yX10_bundle cX10_bundle 3 (some .int) [.ref 33, .int p0, .int p1] w (some (.int r.1)) r.2 := by
  refine Con_of (by decide) (Nat.le_of_ble_eq_true rfl) (fun X hX hE => ?_)
  have hX : bOk cX10_bundle 3 RX10 d X := hX
  show bV X 0 [some (.ref 33), some (.int p0), some (.int p1)] [] w
  obtain ⟨d, rfl⟩ : ∃ e, d = e + 1 := ⟨d - 1, by omega⟩
  unfold f_X10_bundle at hr
  refine V_aload_n hX dX10_bundle_0 rfl rfl ?_
  refine V_iload_n hX dX10_bundle_1 rfl rfl ?_
  obtain ⟨q1, hq1, hr⟩ := bnd hr
  refine C_RX10_205 hX (c_X10_isBundle (by omega) hq1) (Nat.le_of_ble_eq_true rfl) dX10_bundle_2 ?_
  refine V_if_ne (tgt := 11) hX dX10_bundle_5 (by decide) (fun h5 => ?_) (fun h5 => ?_)
  · rw [if_neg h5] at hr
    refine V_iload_n hX dX10_bundle_11 rfl rfl ?_
    refine V_iconst hX dX10_bundle_12 ic_0 ?_
    refine V_bipush hX dX10_bundle_13 bp_9 ?_
    obtain ⟨q2, hq2, hr⟩ := bnd hr
    refine C_RX10_86 hX (c_X10_in (by omega) hq2) (Nat.le_of_ble_eq_true rfl) dX10_bundle_15 ?_
    refine V_if_ne (tgt := 24) hX dX10_bundle_18 (by decide) (fun h18 => ?_) (fun h18 => ?_)
    · rw [if_neg h18] at hr
      refine V_iload_n hX dX10_bundle_24 rfl rfl ?_
      refine V_if_ne (tgt := 37) hX dX10_bundle_25 (by decide) (fun h25 => ?_) (fun h25 => ?_)
      · rw [if_neg h25] at hr
        refine V_iload_n hX dX10_bundle_37 rfl rfl ?_
        refine V_iconst hX dX10_bundle_38 ic_1 ?_
        refine V_icmp_ne (tgt := 51) hX dX10_bundle_39 (by decide) (fun h39 => ?_) (fun h39 => ?_)
        · rw [if_neg h39] at hr
          refine V_iload_n hX dX10_bundle_51 rfl rfl ?_
          refine V_bipush hX dX10_bundle_52 bp_9 ?_
          refine V_icmp_ne (tgt := 65) hX dX10_bundle_54 (by decide) (fun h54 => ?_) (fun h54 => ?_)
          · rw [if_neg h54] at hr
            refine V_aload_n hX dX10_bundle_65 rfl rfl ?_
            refine V_iload_n hX dX10_bundle_66 rfl rfl ?_
            refine V_iload_n hX dX10_bundle_67 rfl rfl ?_
            refine V_iconst hX dX10_bundle_68 ic_2 ?_
            refine V_isub hX dX10_bundle_69 ?_
            obtain ⟨q3, hq3, hr⟩ := bnd hr
            refine C_RX10_184 hX (c_X10_of (by omega) hq3) (Nat.le_of_ble_eq_true rfl) dX10_bundle_70 ?_
            cases hr
            exact V_iret hX hE rfl dX10_bundle_73
          · rw [if_pos h54] at hr
            refine V_aload_n hX dX10_bundle_57 rfl rfl ?_
            refine V_iload_n hX dX10_bundle_58 rfl rfl ?_
            obtain ⟨q3, hq3, hr⟩ := bnd hr
            refine C_RX10_208 hX (c_X10_yardsOf (by omega) hq3) (Nat.le_of_ble_eq_true rfl) dX10_bundle_59 ?_
            refine V_goto (tgt := 73) hX dX10_bundle_62 (by decide) ?_
            cases hr
            exact V_iret hX hE rfl dX10_bundle_73
        · rw [if_pos h39] at hr
          refine V_aload_n hX dX10_bundle_42 rfl rfl ?_
          refine G_RX10_16 hX dX10_bundle_43 ?_
          refine V_iload_n hX dX10_bundle_46 rfl rfl ?_
          obtain ⟨hn47, hr⟩ := ifn hr
          refine V_iald hX (Nat.le_of_ble_eq_true rfl) lay_36 (inB_in hn47) dX10_bundle_47 ?_
          refine V_goto (tgt := 73) hX dX10_bundle_48 (by decide) ?_
          cases hr
          exact V_iret hX hE rfl dX10_bundle_73
      · rw [if_pos h25] at hr
        refine V_aload_n hX dX10_bundle_28 rfl rfl ?_
        refine G_RX10_13 hX dX10_bundle_29 ?_
        refine V_iload_n hX dX10_bundle_32 rfl rfl ?_
        obtain ⟨hn33, hr⟩ := ifn hr
        refine V_iald hX (Nat.le_of_ble_eq_true rfl) lay_35 (inB_in hn33) dX10_bundle_33 ?_
        refine V_goto (tgt := 73) hX dX10_bundle_34 (by decide) ?_
        cases hr
        exact V_iret hX hE rfl dX10_bundle_73
    · rw [if_pos h18] at hr
      refine V_bipush hX dX10_bundle_21 bp_m3 ?_
      cases hr
      exact V_iret hX hE rfl dX10_bundle_23
  · rw [if_pos h5] at hr
    refine V_bipush hX dX10_bundle_8 bp_m2 ?_
    cases hr
    exact V_iret hX hE rfl dX10_bundle_10
def f_X10_covers (p0 : Int32) (p1 : Int32) (w : Wd) : Option (Int32 × Wd) := Option.bind (f_X10_isThing p0 w) fun q1 =>
    if q1.1 = 0 then
      (some ((-2), q1.2))
    else
      (if p1 = 0 then
        (if inB p0 14 then (some ((q1.2.1 35 (ix p0)), q1.2)) else none)
      else
        (if p1 = 1 then
          (if inB p0 14 then (some ((q1.2.1 36 (ix p0)), q1.2)) else none)
        else
          (if p1 = 2 then
            (if inB p0 14 then (some ((q1.2.1 37 (ix p0)), q1.2)) else none)
          else
            (if p1 = 3 then
              (if inB p0 14 then (some ((q1.2.1 38 (ix p0)), q1.2)) else none)
            else
              (some ((-3), q1.2))))))
set_option maxRecDepth 100000 in
set_option maxHeartbeats 4000000 in
theorem c_X10_covers {d : Nat} (hd9 : 2 ≤ d) {p0 : Int32} {p1 : Int32} {w : Wd} {r : (Int32 × Wd)} (hr : f_X10_covers p0 p1 w = some r) : Con d yX10_covers cX10_covers 3 (some .int) [.ref 33, .int p0, .int p1] w (some (.int r.1)) r.2 := by
  refine Con_of (by decide) (Nat.le_of_ble_eq_true rfl) (fun X hX hE => ?_)
  have hX : bOk cX10_covers 3 RX10 d X := hX
  show bV X 0 [some (.ref 33), some (.int p0), some (.int p1)] [] w
  obtain ⟨d, rfl⟩ : ∃ e, d = e + 1 := ⟨d - 1, by omega⟩
  unfold f_X10_covers at hr
  refine V_aload_n hX dX10_covers_0 rfl rfl ?_
  refine V_iload_n hX dX10_covers_1 rfl rfl ?_
  obtain ⟨q1, hq1, hr⟩ := bnd hr
  refine C_RX10_93 hX (c_X10_isThing (by omega) hq1) (Nat.le_of_ble_eq_true rfl) dX10_covers_2 ?_
  refine V_if_ne (tgt := 11) hX dX10_covers_5 (by decide) (fun h5 => ?_) (fun h5 => ?_)
  · rw [if_neg h5] at hr
    refine V_iload_n hX dX10_covers_11 rfl rfl ?_
    refine V_if_ne (tgt := 24) hX dX10_covers_12 (by decide) (fun h12 => ?_) (fun h12 => ?_)
    · rw [if_neg h12] at hr
      refine V_iload_n hX dX10_covers_24 rfl rfl ?_
      refine V_iconst hX dX10_covers_25 ic_1 ?_
      refine V_icmp_ne (tgt := 38) hX dX10_covers_26 (by decide) (fun h26 => ?_) (fun h26 => ?_)
      · rw [if_neg h26] at hr
        refine V_iload_n hX dX10_covers_38 rfl rfl ?_
        refine V_iconst hX dX10_covers_39 ic_2 ?_
        refine V_icmp_ne (tgt := 52) hX dX10_covers_40 (by decide) (fun h40 => ?_) (fun h40 => ?_)
        · rw [if_neg h40] at hr
          refine V_iload_n hX dX10_covers_52 rfl rfl ?_
          refine V_iconst hX dX10_covers_53 ic_3 ?_
          refine V_icmp_ne (tgt := 66) hX dX10_covers_54 (by decide) (fun h54 => ?_) (fun h54 => ?_)
          · rw [if_neg h54] at hr
            refine V_bipush hX dX10_covers_66 bp_m3 ?_
            cases hr
            exact V_iret hX hE rfl dX10_covers_68
          · rw [if_pos h54] at hr
            refine V_aload_n hX dX10_covers_57 rfl rfl ?_
            refine G_RX10_22 hX dX10_covers_58 ?_
            refine V_iload_n hX dX10_covers_61 rfl rfl ?_
            obtain ⟨hn62, hr⟩ := ifn hr
            refine V_iald hX (Nat.le_of_ble_eq_true rfl) lay_38 (inB_in hn62) dX10_covers_62 ?_
            refine V_goto (tgt := 68) hX dX10_covers_63 (by decide) ?_
            cases hr
            exact V_iret hX hE rfl dX10_covers_68
        · rw [if_pos h40] at hr
          refine V_aload_n hX dX10_covers_43 rfl rfl ?_
          refine G_RX10_19 hX dX10_covers_44 ?_
          refine V_iload_n hX dX10_covers_47 rfl rfl ?_
          obtain ⟨hn48, hr⟩ := ifn hr
          refine V_iald hX (Nat.le_of_ble_eq_true rfl) lay_37 (inB_in hn48) dX10_covers_48 ?_
          refine V_goto (tgt := 68) hX dX10_covers_49 (by decide) ?_
          cases hr
          exact V_iret hX hE rfl dX10_covers_68
      · rw [if_pos h26] at hr
        refine V_aload_n hX dX10_covers_29 rfl rfl ?_
        refine G_RX10_16 hX dX10_covers_30 ?_
        refine V_iload_n hX dX10_covers_33 rfl rfl ?_
        obtain ⟨hn34, hr⟩ := ifn hr
        refine V_iald hX (Nat.le_of_ble_eq_true rfl) lay_36 (inB_in hn34) dX10_covers_34 ?_
        refine V_goto (tgt := 68) hX dX10_covers_35 (by decide) ?_
        cases hr
        exact V_iret hX hE rfl dX10_covers_68
    · rw [if_pos h12] at hr
      refine V_aload_n hX dX10_covers_15 rfl rfl ?_
      refine G_RX10_13 hX dX10_covers_16 ?_
      refine V_iload_n hX dX10_covers_19 rfl rfl ?_
      obtain ⟨hn20, hr⟩ := ifn hr
      refine V_iald hX (Nat.le_of_ble_eq_true rfl) lay_35 (inB_in hn20) dX10_covers_20 ?_
      refine V_goto (tgt := 68) hX dX10_covers_21 (by decide) ?_
      cases hr
      exact V_iret hX hE rfl dX10_covers_68
  · rw [if_pos h5] at hr
    refine V_bipush hX dX10_covers_8 bp_m2 ?_
    cases hr
    exact V_iret hX hE rfl dX10_covers_10
def f_X10_teamsOf_59 (k4 : Int32 → Int32 → Int32 → Wd → Option (Int32 × Wd)) (s0 : Int32) (x1 : Int32) (x3 : Int32) (w : Wd) : Option (Int32 × Wd) := k4 x1 (s0 ||| 0) (x3 + 1) w
def f_X10_teamsOf_4 : Nat → Int32 → Int32 → Int32 → Wd → Option (Int32 × Wd)
  | 0, _, _, _, _ => none
  | n + 1, x1, x2, x3, w => if 13 ≤ x3 then
        (some (x2, w))
      else
        (if ((jshr (w.1 33 11) x3) &&& 1) = 1 then
          (Option.bind (f_X10_of x1 4 w) fun q1 =>
          if inB (4 * x3) 52 then (if inB ((4 * x3) + 1) 52 then (Option.bind (f_X10_in q1.1 (q1.2.1 43 (ix (4 * x3))) (q1.2.1 43 (ix ((4 * x3) + 1))) q1.2) fun q2 =>
          if q2.1 = 0 then
            (f_X10_teamsOf_59 (f_X10_teamsOf_4 n) x2 x1 x3 q2.2)
          else
            (f_X10_teamsOf_4 n x1 (x2 ||| (jshl 1 x3)) (x3 + 1) q2.2)) else none) else none)
        else
          (f_X10_teamsOf_59 (f_X10_teamsOf_4 n) x2 x1 x3 w))
def f_X10_teamsOf (p0 : Int32) (w : Wd) : Option (Int32 × Wd) := f_X10_teamsOf_4 fu p0 0 1 w
set_option maxRecDepth 100000 in
set_option maxHeartbeats 4000000 in
theorem v_X10_teamsOf_59 {d : Nat} (hd9 : 1 ≤ d) {X : bX} (hX : bOk cX10_teamsOf 4 RX10 d X) {r : (Int32 × Wd)} (hE : bEnd (some .int) (some (.int r.1)) r.2 X) {k4 : Int32 → Int32 → Int32 → Wd → Option (Int32 × Wd)} (hk4 : ∀ (x1 : Int32) (x2 : Int32) (x3 : Int32) (w : Wd), k4 x1 x2 x3 w = some r → bV X 4 [some (.ref 33), some (.int x1), some (.int x2), some (.int x3)] [] w) : ∀ (s0 : Int32) (x1 : Int32) (x3 : Int32) (w : Wd), f_X10_teamsOf_59 k4 s0 x1 x3 w = some r → bV X 59 [some (.ref 33), some (.int x1), none, some (.int x3)] [.int s0] w := by
  intro s0 x1 x3 w hr
  obtain ⟨d, rfl⟩ : ∃ e, d = e + 1 := ⟨d - 1, by omega⟩
  unfold f_X10_teamsOf_59 at hr
  refine V_iconst hX dX10_teamsOf_59 ic_0 ?_
  refine V_ior hX dX10_teamsOf_60 ?_
  refine V_istore_n hX dX10_teamsOf_61 rfl (Nat.le_of_ble_eq_true rfl) rfl ?_
  refine V_iinc hX dX10_teamsOf_62 rfl (ii_1 _) (Nat.le_of_ble_eq_true rfl) rfl ?_
  refine V_goto (tgt := 4) hX dX10_teamsOf_65 (by decide) ?_
  refine V_mask [true, true, true, true] ?_
  exact hk4 _ _ _ _ hr
set_option maxRecDepth 100000 in
set_option maxHeartbeats 4000000 in
theorem v_X10_teamsOf_4 {d : Nat} (hd9 : 1 ≤ d) {X : bX} (hX : bOk cX10_teamsOf 4 RX10 d X) {r : (Int32 × Wd)} (hE : bEnd (some .int) (some (.int r.1)) r.2 X) : ∀ (n : Nat) (x1 : Int32) (x2 : Int32) (x3 : Int32) (w : Wd), f_X10_teamsOf_4 n x1 x2 x3 w = some r → bV X 4 [some (.ref 33), some (.int x1), some (.int x2), some (.int x3)] [] w := by
  obtain ⟨d, rfl⟩ : ∃ e, d = e + 1 := ⟨d - 1, by omega⟩
  intro n
  induction n with
  | zero => intro x1 x2 x3 w hr; exact absurd hr (by simp [f_X10_teamsOf_4])
  | succ n ih =>
    intro x1 x2 x3 w hr
    rw [f_X10_teamsOf_4] at hr
    refine V_iload_n hX dX10_teamsOf_4 rfl rfl ?_
    refine V_bipush hX dX10_teamsOf_5 bp_13 ?_
    refine V_icmp_ge (tgt := 68) hX dX10_teamsOf_7 (by decide) (fun h7 => ?_) (fun h7 => ?_)
    · rw [if_pos h7] at hr
      refine V_iload_n hX dX10_teamsOf_68 rfl rfl ?_
      cases hr
      exact V_iret hX hE rfl dX10_teamsOf_69
    · rw [if_neg h7] at hr
      refine V_iload_n hX dX10_teamsOf_10 rfl rfl ?_
      refine V_aload_n hX dX10_teamsOf_11 rfl rfl ?_
      refine G_RX10_199 hX dX10_teamsOf_12 ?_
      refine V_iload_n hX dX10_teamsOf_15 rfl rfl ?_
      refine V_ishr hX dX10_teamsOf_16 ?_
      refine V_iconst hX dX10_teamsOf_17 ic_1 ?_
      refine V_iand hX dX10_teamsOf_18 ?_
      refine V_iconst hX dX10_teamsOf_19 ic_1 ?_
      refine V_icmp_ne (tgt := 59) hX dX10_teamsOf_20 (by decide) (fun h20 => ?_) (fun h20 => ?_)
      · rw [if_neg h20] at hr
        refine V_mask [true, true, false, true] ?_
        exact v_X10_teamsOf_59 hd9 hX hE ih _ _ _ _ hr
      · rw [if_pos h20] at hr
        refine V_aload_n hX dX10_teamsOf_23 rfl rfl ?_
        refine V_iload_n hX dX10_teamsOf_24 rfl rfl ?_
        refine V_iconst hX dX10_teamsOf_25 ic_4 ?_
        obtain ⟨q1, hq1, hr⟩ := bnd hr
        refine C_RX10_184 hX (c_X10_of (by omega) hq1) (Nat.le_of_ble_eq_true rfl) dX10_teamsOf_26 ?_
        refine V_aload_n hX dX10_teamsOf_29 rfl rfl ?_
        refine G_RX10_37 hX dX10_teamsOf_30 ?_
        refine V_iconst hX dX10_teamsOf_33 ic_4 ?_
        refine V_iload_n hX dX10_teamsOf_34 rfl rfl ?_
        refine V_imul hX dX10_teamsOf_35 ?_
        obtain ⟨hn36, hr⟩ := ifn hr
        refine V_iald hX (Nat.le_of_ble_eq_true rfl) lay_43 (inB_in hn36) dX10_teamsOf_36 ?_
        refine V_aload_n hX dX10_teamsOf_37 rfl rfl ?_
        refine G_RX10_37 hX dX10_teamsOf_38 ?_
        refine V_iconst hX dX10_teamsOf_41 ic_4 ?_
        refine V_iload_n hX dX10_teamsOf_42 rfl rfl ?_
        refine V_imul hX dX10_teamsOf_43 ?_
        refine V_iconst hX dX10_teamsOf_44 ic_1 ?_
        refine V_iadd hX dX10_teamsOf_45 ?_
        obtain ⟨hn46, hr⟩ := ifn hr
        refine V_iald hX (Nat.le_of_ble_eq_true rfl) lay_43 (inB_in hn46) dX10_teamsOf_46 ?_
        obtain ⟨q2, hq2, hr⟩ := bnd hr
        refine C_RX10_86 hX (c_X10_in (by omega) hq2) (Nat.le_of_ble_eq_true rfl) dX10_teamsOf_47 ?_
        refine V_if_eq (tgt := 59) hX dX10_teamsOf_50 (by decide) (fun h50 => ?_) (fun h50 => ?_)
        · rw [if_pos h50] at hr
          refine V_mask [true, true, false, true] ?_
          exact v_X10_teamsOf_59 hd9 hX hE ih _ _ _ _ hr
        · rw [if_neg h50] at hr
          refine V_iconst hX dX10_teamsOf_53 ic_1 ?_
          refine V_iload_n hX dX10_teamsOf_54 rfl rfl ?_
          refine V_ishl hX dX10_teamsOf_55 ?_
          refine V_goto (tgt := 60) hX dX10_teamsOf_56 (by decide) ?_
          refine V_ior hX dX10_teamsOf_60 ?_
          refine V_istore_n hX dX10_teamsOf_61 rfl (Nat.le_of_ble_eq_true rfl) rfl ?_
          refine V_iinc hX dX10_teamsOf_62 rfl (ii_1 _) (Nat.le_of_ble_eq_true rfl) rfl ?_
          refine V_goto (tgt := 4) hX dX10_teamsOf_65 (by decide) ?_
          refine V_mask [true, true, true, true] ?_
          exact ih _ _ _ _ hr
set_option maxRecDepth 100000 in
set_option maxHeartbeats 4000000 in
theorem c_X10_teamsOf {d : Nat} (hd9 : 1 ≤ d) {p0 : Int32} {w : Wd} {r : (Int32 × Wd)} (hr : f_X10_teamsOf p0 w = some r) : Con d yX10_teamsOf cX10_teamsOf 4 (some .int) [.ref 33, .int p0] w (some (.int r.1)) r.2 := by
  refine Con_of (by decide) (Nat.le_of_ble_eq_true rfl) (fun X hX hE => ?_)
  have hX : bOk cX10_teamsOf 4 RX10 d X := hX
  show bV X 0 [some (.ref 33), some (.int p0), none, none] [] w
  obtain ⟨d, rfl⟩ : ∃ e, d = e + 1 := ⟨d - 1, by omega⟩
  unfold f_X10_teamsOf at hr
  refine V_iconst hX dX10_teamsOf_0 ic_0 ?_
  refine V_istore_n hX dX10_teamsOf_1 rfl (Nat.le_of_ble_eq_true rfl) rfl ?_
  refine V_iconst hX dX10_teamsOf_2 ic_1 ?_
  refine V_istore_n hX dX10_teamsOf_3 rfl (Nat.le_of_ble_eq_true rfl) rfl ?_
  refine V_mask [true, true, true, true] ?_
  exact v_X10_teamsOf_4 hd9 hX hE _ _ _ _ _ hr
def f_X10_teams (p0 : Int32) (w : Wd) : Option (Int32 × Wd) := Option.bind (f_X10_isBundle p0 w) fun q1 =>
    if q1.1 = 0 then
      (some ((-2), q1.2))
    else
      (Option.bind (f_X10_teamsOf p0 q1.2) fun q2 =>
      some (q2.1, q2.2))
set_option maxRecDepth 100000 in
set_option maxHeartbeats 4000000 in
theorem c_X10_teams {d : Nat} (hd9 : 3 ≤ d) {p0 : Int32} {w : Wd} {r : (Int32 × Wd)} (hr : f_X10_teams p0 w = some r) : Con d yX10_teams cX10_teams 2 (some .int) [.ref 33, .int p0] w (some (.int r.1)) r.2 := by
  refine Con_of (by decide) (Nat.le_of_ble_eq_true rfl) (fun X hX hE => ?_)
  have hX : bOk cX10_teams 2 RX10 d X := hX
  show bV X 0 [some (.ref 33), some (.int p0)] [] w
  obtain ⟨d, rfl⟩ : ∃ e, d = e + 1 := ⟨d - 1, by omega⟩
  unfold f_X10_teams at hr
  refine V_aload_n hX dX10_teams_0 rfl rfl ?_
  refine V_iload_n hX dX10_teams_1 rfl rfl ?_
  obtain ⟨q1, hq1, hr⟩ := bnd hr
  refine C_RX10_205 hX (c_X10_isBundle (by omega) hq1) (Nat.le_of_ble_eq_true rfl) dX10_teams_2 ?_
  refine V_if_eq (tgt := 16) hX dX10_teams_5 (by decide) (fun h5 => ?_) (fun h5 => ?_)
  · rw [if_pos h5] at hr
    refine V_bipush hX dX10_teams_16 bp_m2 ?_
    cases hr
    exact V_iret hX hE rfl dX10_teams_18
  · rw [if_neg h5] at hr
    refine V_aload_n hX dX10_teams_8 rfl rfl ?_
    refine V_iload_n hX dX10_teams_9 rfl rfl ?_
    obtain ⟨q2, hq2, hr⟩ := bnd hr
    refine C_RX10_212 hX (c_X10_teamsOf (by omega) hq2) (Nat.le_of_ble_eq_true rfl) dX10_teams_10 ?_
    refine V_goto (tgt := 18) hX dX10_teams_13 (by decide) ?_
    cases hr
    exact V_iret hX hE rfl dX10_teams_18
def f_X10_beginYears_167 (s1 : Int32) (s2 : Int32) (x1 : Int32) (x4 : Int32) (w : Wd) : Option Wd := if inB s1 14 then (if inB x1 14 then (if ((wS w 46 (ix s1) s2).1 47 (ix x1)) ≤ x4 then
      (if inB x1 14 then (if inB x1 14 then (some (wS (wS w 46 (ix s1) s2) 47 (ix x1) ((wS w 46 (ix s1) s2).1 47 (ix x1)))) else none) else none)
    else
      (if inB x1 14 then (some (wS (wS w 46 (ix s1) s2) 47 (ix x1) x4)) else none)) else none) else none
def f_X10_beginYears_97 (k50 : Int32 → Int32 → Int32 → Int32 → Int32 → Wd → Option Wd) (s0 : Int32) (x1 : Int32) (x2 : Int32) (x4 : Int32) (x5 : Int32) (w : Wd) : Option Wd := if inB ((4 * x5) + 3) 52 then (if (w.1 43 (ix ((4 * x5) + 3))) ≤ x4 then
      (k50 x1 x2 s0 x4 (x5 + 1) w)
    else
      (if inB ((4 * x5) + 3) 52 then (k50 x1 x2 s0 (w.1 43 (ix ((4 * x5) + 3))) (x5 + 1) w) else none)) else none
def f_X10_beginYears_50 : Nat → Int32 → Int32 → Int32 → Int32 → Int32 → Wd → Option Wd
  | 0, _, _, _, _, _, _ => none
  | n + 1, x1, x2, x3, x4, x5, w => if 13 ≤ x5 then
        (if x2 = 0 then
          (some w)
        else
          (if inB x1 14 then (if x3 ≤ (w.1 46 (ix x1)) then
            (if inB x1 14 then (f_X10_beginYears_167 x1 (w.1 46 (ix x1)) x1 x4 w) else none)
          else
            (f_X10_beginYears_167 x1 x3 x1 x4 w)) else none))
      else
        (if ((jshr x2 x5) &&& 1) = 1 then
          (if inB ((4 * x5) + 2) 52 then (if x3 ≤ (w.1 43 (ix ((4 * x5) + 2))) then
            (f_X10_beginYears_97 (f_X10_beginYears_50 n) x3 x1 x2 x4 x5 w)
          else
            (if inB ((4 * x5) + 2) 52 then (f_X10_beginYears_97 (f_X10_beginYears_50 n) (w.1 43 (ix ((4 * x5) + 2))) x1 x2 x4 x5 w) else none)) else none)
        else
          (f_X10_beginYears_50 n x1 x2 x3 x4 (x5 + 1) w))
def f_X10_beginYears_39 (s0 : Int32) (x1 : Int32) (w : Wd) : Option Wd := f_X10_beginYears_50 fu x1 s0 2000 0 1 w
def f_X10_beginYears (p0 : Int32) (w : Wd) : Option Wd := if inB p0 14 then (if inB p0 14 then (if inB p0 14 then (if inB p0 14 then (if 8 ≤ p0 then
      (f_X10_beginYears_39 0 p0 (wS (wS w 46 (ix p0) (w.1 39 (ix p0))) 47 (ix p0) ((wS w 46 (ix p0) (w.1 39 (ix p0))).1 40 (ix p0))))
    else
      (Option.bind (f_X10_teamsOf p0 (wS (wS w 46 (ix p0) (w.1 39 (ix p0))) 47 (ix p0) ((wS w 46 (ix p0) (w.1 39 (ix p0))).1 40 (ix p0)))) fun q1 =>
      f_X10_beginYears_39 q1.1 p0 q1.2)) else none) else none) else none) else none
set_option maxRecDepth 100000 in
set_option maxHeartbeats 4000000 in
theorem v_X10_beginYears_167 {d : Nat} (hd9 : 2 ≤ d) {X : bX} (hX : bOk cX10_beginYears 6 RX10 d X) {r : Wd} (hE : bEnd none none r X) : ∀ (s1 : Int32) (s2 : Int32) (x1 : Int32) (x4 : Int32) (w : Wd), f_X10_beginYears_167 s1 s2 x1 x4 w = some r → bV X 167 [some (.ref 33), some (.int x1), none, none, some (.int x4), none] [.int s2, .int s1, .ref 46] w := by
  intro s1 s2 x1 x4 w hr
  obtain ⟨d, rfl⟩ : ∃ e, d = e + 1 := ⟨d - 1, by omega⟩
  unfold f_X10_beginYears_167 at hr
  obtain ⟨hn167, hr⟩ := ifn hr
  refine V_iast hX (Nat.le_of_ble_eq_true rfl) lay_46 (inB_in hn167) dX10_beginYears_167 ?_
  refine V_aload_n hX dX10_beginYears_168 rfl rfl ?_
  refine G_RX10_56 hX dX10_beginYears_169 ?_
  refine V_iload_n hX dX10_beginYears_172 rfl rfl ?_
  refine V_iload hX dX10_beginYears_173 rfl ?_
  refine V_aload_n hX dX10_beginYears_175 rfl rfl ?_
  refine G_RX10_56 hX dX10_beginYears_176 ?_
  refine V_iload_n hX dX10_beginYears_179 rfl rfl ?_
  obtain ⟨hn180, hr⟩ := ifn hr
  refine V_iald hX (Nat.le_of_ble_eq_true rfl) lay_47 (inB_in hn180) dX10_beginYears_180 ?_
  refine V_icmp_ge (tgt := 189) hX dX10_beginYears_181 (by decide) (fun h181 => ?_) (fun h181 => ?_)
  · rw [if_pos h181] at hr
    refine V_aload_n hX dX10_beginYears_189 rfl rfl ?_
    refine G_RX10_56 hX dX10_beginYears_190 ?_
    refine V_iload_n hX dX10_beginYears_193 rfl rfl ?_
    obtain ⟨hn194, hr⟩ := ifn hr
    refine V_iald hX (Nat.le_of_ble_eq_true rfl) lay_47 (inB_in hn194) dX10_beginYears_194 ?_
    obtain ⟨hn195, hr⟩ := ifn hr
    refine V_iast hX (Nat.le_of_ble_eq_true rfl) lay_47 (inB_in hn195) dX10_beginYears_195 ?_
    cases hr
    exact V_vret hX hE dX10_beginYears_196
  · rw [if_neg h181] at hr
    refine V_iload hX dX10_beginYears_184 rfl ?_
    refine V_goto (tgt := 195) hX dX10_beginYears_186 (by decide) ?_
    obtain ⟨hn195, hr⟩ := ifn hr
    refine V_iast hX (Nat.le_of_ble_eq_true rfl) lay_47 (inB_in hn195) dX10_beginYears_195 ?_
    cases hr
    exact V_vret hX hE dX10_beginYears_196
set_option maxRecDepth 100000 in
set_option maxHeartbeats 4000000 in
theorem v_X10_beginYears_97 {d : Nat} (hd9 : 2 ≤ d) {X : bX} (hX : bOk cX10_beginYears 6 RX10 d X) {r : Wd} (hE : bEnd none none r X) {k50 : Int32 → Int32 → Int32 → Int32 → Int32 → Wd → Option Wd} (hk50 : ∀ (x1 : Int32) (x2 : Int32) (x3 : Int32) (x4 : Int32) (x5 : Int32) (w : Wd), k50 x1 x2 x3 x4 x5 w = some r → bV X 50 [some (.ref 33), some (.int x1), some (.int x2), some (.int x3), some (.int x4), some (.int x5)] [] w) : ∀ (s0 : Int32) (x1 : Int32) (x2 : Int32) (x4 : Int32) (x5 : Int32) (w : Wd), f_X10_beginYears_97 k50 s0 x1 x2 x4 x5 w = some r → bV X 97 [some (.ref 33), some (.int x1), some (.int x2), none, some (.int x4), some (.int x5)] [.int s0] w := by
  intro s0 x1 x2 x4 x5 w hr
  obtain ⟨d, rfl⟩ : ∃ e, d = e + 1 := ⟨d - 1, by omega⟩
  unfold f_X10_beginYears_97 at hr
  refine V_istore_n hX dX10_beginYears_97 rfl (Nat.le_of_ble_eq_true rfl) rfl ?_
  refine V_aload_n hX dX10_beginYears_98 rfl rfl ?_
  refine G_RX10_37 hX dX10_beginYears_99 ?_
  refine V_iconst hX dX10_beginYears_102 ic_4 ?_
  refine V_iload hX dX10_beginYears_103 rfl ?_
  refine V_imul hX dX10_beginYears_105 ?_
  refine V_iconst hX dX10_beginYears_106 ic_3 ?_
  refine V_iadd hX dX10_beginYears_107 ?_
  obtain ⟨hn108, hr⟩ := ifn hr
  refine V_iald hX (Nat.le_of_ble_eq_true rfl) lay_43 (inB_in hn108) dX10_beginYears_108 ?_
  refine V_iload hX dX10_beginYears_109 rfl ?_
  refine V_icmp_le (tgt := 128) hX dX10_beginYears_111 (by decide) (fun h111 => ?_) (fun h111 => ?_)
  · rw [if_pos h111] at hr
    refine V_iload hX dX10_beginYears_128 rfl ?_
    refine V_istore hX dX10_beginYears_130 (Nat.le_of_ble_eq_true rfl) rfl ?_
    refine V_iinc hX dX10_beginYears_132 rfl (ii_1 _) (Nat.le_of_ble_eq_true rfl) rfl ?_
    refine V_goto (tgt := 50) hX dX10_beginYears_135 (by decide) ?_
    refine V_mask [true, true, true, true, true, true] ?_
    exact hk50 _ _ _ _ _ _ hr
  · rw [if_neg h111] at hr
    refine V_aload_n hX dX10_beginYears_114 rfl rfl ?_
    refine G_RX10_37 hX dX10_beginYears_115 ?_
    refine V_iconst hX dX10_beginYears_118 ic_4 ?_
    refine V_iload hX dX10_beginYears_119 rfl ?_
    refine V_imul hX dX10_beginYears_121 ?_
    refine V_iconst hX dX10_beginYears_122 ic_3 ?_
    refine V_iadd hX dX10_beginYears_123 ?_
    obtain ⟨hn124, hr⟩ := ifn hr
    refine V_iald hX (Nat.le_of_ble_eq_true rfl) lay_43 (inB_in hn124) dX10_beginYears_124 ?_
    refine V_goto (tgt := 130) hX dX10_beginYears_125 (by decide) ?_
    refine V_istore hX dX10_beginYears_130 (Nat.le_of_ble_eq_true rfl) rfl ?_
    refine V_iinc hX dX10_beginYears_132 rfl (ii_1 _) (Nat.le_of_ble_eq_true rfl) rfl ?_
    refine V_goto (tgt := 50) hX dX10_beginYears_135 (by decide) ?_
    refine V_mask [true, true, true, true, true, true] ?_
    exact hk50 _ _ _ _ _ _ hr
set_option maxRecDepth 100000 in
set_option maxHeartbeats 4000000 in
theorem v_X10_beginYears_50 {d : Nat} (hd9 : 2 ≤ d) {X : bX} (hX : bOk cX10_beginYears 6 RX10 d X) {r : Wd} (hE : bEnd none none r X) : ∀ (n : Nat) (x1 : Int32) (x2 : Int32) (x3 : Int32) (x4 : Int32) (x5 : Int32) (w : Wd), f_X10_beginYears_50 n x1 x2 x3 x4 x5 w = some r → bV X 50 [some (.ref 33), some (.int x1), some (.int x2), some (.int x3), some (.int x4), some (.int x5)] [] w := by
  obtain ⟨d, rfl⟩ : ∃ e, d = e + 1 := ⟨d - 1, by omega⟩
  intro n
  induction n with
  | zero => intro x1 x2 x3 x4 x5 w hr; exact absurd hr (by simp [f_X10_beginYears_50])
  | succ n ih =>
    intro x1 x2 x3 x4 x5 w hr
    rw [f_X10_beginYears_50] at hr
    refine V_iload hX dX10_beginYears_50 rfl ?_
    refine V_bipush hX dX10_beginYears_52 bp_13 ?_
    refine V_icmp_ge (tgt := 138) hX dX10_beginYears_54 (by decide) (fun h54 => ?_) (fun h54 => ?_)
    · rw [if_pos h54] at hr
      refine V_iload_n hX dX10_beginYears_138 rfl rfl ?_
      refine V_if_eq (tgt := 196) hX dX10_beginYears_139 (by decide) (fun h139 => ?_) (fun h139 => ?_)
      · rw [if_pos h139] at hr
        cases hr
        exact V_vret hX hE dX10_beginYears_196
      · rw [if_neg h139] at hr
        refine V_aload_n hX dX10_beginYears_142 rfl rfl ?_
        refine G_RX10_53 hX dX10_beginYears_143 ?_
        refine V_iload_n hX dX10_beginYears_146 rfl rfl ?_
        refine V_iload_n hX dX10_beginYears_147 rfl rfl ?_
        refine V_aload_n hX dX10_beginYears_148 rfl rfl ?_
        refine G_RX10_53 hX dX10_beginYears_149 ?_
        refine V_iload_n hX dX10_beginYears_152 rfl rfl ?_
        obtain ⟨hn153, hr⟩ := ifn hr
        refine V_iald hX (Nat.le_of_ble_eq_true rfl) lay_46 (inB_in hn153) dX10_beginYears_153 ?_
        refine V_icmp_le (tgt := 161) hX dX10_beginYears_154 (by decide) (fun h154 => ?_) (fun h154 => ?_)
        · rw [if_pos h154] at hr
          refine V_aload_n hX dX10_beginYears_161 rfl rfl ?_
          refine G_RX10_53 hX dX10_beginYears_162 ?_
          refine V_iload_n hX dX10_beginYears_165 rfl rfl ?_
          obtain ⟨hn166, hr⟩ := ifn hr
          refine V_iald hX (Nat.le_of_ble_eq_true rfl) lay_46 (inB_in hn166) dX10_beginYears_166 ?_
          refine V_mask [true, true, false, false, true, false] ?_
          exact v_X10_beginYears_167 hd9 hX hE _ _ _ _ _ hr
        · rw [if_neg h154] at hr
          refine V_iload_n hX dX10_beginYears_157 rfl rfl ?_
          refine V_goto (tgt := 167) hX dX10_beginYears_158 (by decide) ?_
          refine V_mask [true, true, false, false, true, false] ?_
          exact v_X10_beginYears_167 hd9 hX hE _ _ _ _ _ hr
    · rw [if_neg h54] at hr
      refine V_iload_n hX dX10_beginYears_57 rfl rfl ?_
      refine V_iload hX dX10_beginYears_58 rfl ?_
      refine V_ishr hX dX10_beginYears_60 ?_
      refine V_iconst hX dX10_beginYears_61 ic_1 ?_
      refine V_iand hX dX10_beginYears_62 ?_
      refine V_iconst hX dX10_beginYears_63 ic_1 ?_
      refine V_icmp_ne (tgt := 132) hX dX10_beginYears_64 (by decide) (fun h64 => ?_) (fun h64 => ?_)
      · rw [if_neg h64] at hr
        refine V_iinc hX dX10_beginYears_132 rfl (ii_1 _) (Nat.le_of_ble_eq_true rfl) rfl ?_
        refine V_goto (tgt := 50) hX dX10_beginYears_135 (by decide) ?_
        refine V_mask [true, true, true, true, true, true] ?_
        exact ih _ _ _ _ _ _ hr
      · rw [if_pos h64] at hr
        refine V_aload_n hX dX10_beginYears_67 rfl rfl ?_
        refine G_RX10_37 hX dX10_beginYears_68 ?_
        refine V_iconst hX dX10_beginYears_71 ic_4 ?_
        refine V_iload hX dX10_beginYears_72 rfl ?_
        refine V_imul hX dX10_beginYears_74 ?_
        refine V_iconst hX dX10_beginYears_75 ic_2 ?_
        refine V_iadd hX dX10_beginYears_76 ?_
        obtain ⟨hn77, hr⟩ := ifn hr
        refine V_iald hX (Nat.le_of_ble_eq_true rfl) lay_43 (inB_in hn77) dX10_beginYears_77 ?_
        refine V_iload_n hX dX10_beginYears_78 rfl rfl ?_
        refine V_icmp_ge (tgt := 96) hX dX10_beginYears_79 (by decide) (fun h79 => ?_) (fun h79 => ?_)
        · rw [if_pos h79] at hr
          refine V_iload_n hX dX10_beginYears_96 rfl rfl ?_
          refine V_mask [true, true, true, false, true, true] ?_
          exact v_X10_beginYears_97 hd9 hX hE ih _ _ _ _ _ _ hr
        · rw [if_neg h79] at hr
          refine V_aload_n hX dX10_beginYears_82 rfl rfl ?_
          refine G_RX10_37 hX dX10_beginYears_83 ?_
          refine V_iconst hX dX10_beginYears_86 ic_4 ?_
          refine V_iload hX dX10_beginYears_87 rfl ?_
          refine V_imul hX dX10_beginYears_89 ?_
          refine V_iconst hX dX10_beginYears_90 ic_2 ?_
          refine V_iadd hX dX10_beginYears_91 ?_
          obtain ⟨hn92, hr⟩ := ifn hr
          refine V_iald hX (Nat.le_of_ble_eq_true rfl) lay_43 (inB_in hn92) dX10_beginYears_92 ?_
          refine V_goto (tgt := 97) hX dX10_beginYears_93 (by decide) ?_
          refine V_mask [true, true, true, false, true, true] ?_
          exact v_X10_beginYears_97 hd9 hX hE ih _ _ _ _ _ _ hr
set_option maxRecDepth 100000 in
set_option maxHeartbeats 4000000 in
theorem v_X10_beginYears_39 {d : Nat} (hd9 : 2 ≤ d) {X : bX} (hX : bOk cX10_beginYears 6 RX10 d X) {r : Wd} (hE : bEnd none none r X) : ∀ (s0 : Int32) (x1 : Int32) (w : Wd), f_X10_beginYears_39 s0 x1 w = some r → bV X 39 [some (.ref 33), some (.int x1), none, none, none, none] [.int s0] w := by
  intro s0 x1 w hr
  obtain ⟨d, rfl⟩ : ∃ e, d = e + 1 := ⟨d - 1, by omega⟩
  unfold f_X10_beginYears_39 at hr
  refine V_istore_n hX dX10_beginYears_39 rfl (Nat.le_of_ble_eq_true rfl) rfl ?_
  refine V_sipush hX dX10_beginYears_40 sp_2000 ?_
  refine V_istore_n hX dX10_beginYears_43 rfl (Nat.le_of_ble_eq_true rfl) rfl ?_
  refine V_iconst hX dX10_beginYears_44 ic_0 ?_
  refine V_istore hX dX10_beginYears_45 (Nat.le_of_ble_eq_true rfl) rfl ?_
  refine V_iconst hX dX10_beginYears_47 ic_1 ?_
  refine V_istore hX dX10_beginYears_48 (Nat.le_of_ble_eq_true rfl) rfl ?_
  refine V_mask [true, true, true, true, true, true] ?_
  exact v_X10_beginYears_50 hd9 hX hE _ _ _ _ _ _ _ hr
set_option maxRecDepth 100000 in
set_option maxHeartbeats 4000000 in
theorem c_X10_beginYears {d : Nat} (hd9 : 2 ≤ d) {p0 : Int32} {w : Wd} {r : Wd} (hr : f_X10_beginYears p0 w = some r) : Con d yX10_beginYears cX10_beginYears 6 none [.ref 33, .int p0] w none r := by
  refine Con_of (by decide) (Nat.le_of_ble_eq_true rfl) (fun X hX hE => ?_)
  have hX : bOk cX10_beginYears 6 RX10 d X := hX
  show bV X 0 [some (.ref 33), some (.int p0), none, none, none, none] [] w
  obtain ⟨d, rfl⟩ : ∃ e, d = e + 1 := ⟨d - 1, by omega⟩
  unfold f_X10_beginYears at hr
  refine V_aload_n hX dX10_beginYears_0 rfl rfl ?_
  refine G_RX10_53 hX dX10_beginYears_1 ?_
  refine V_iload_n hX dX10_beginYears_4 rfl rfl ?_
  refine V_aload_n hX dX10_beginYears_5 rfl rfl ?_
  refine G_RX10_25 hX dX10_beginYears_6 ?_
  refine V_iload_n hX dX10_beginYears_9 rfl rfl ?_
  obtain ⟨hn10, hr⟩ := ifn hr
  refine V_iald hX (Nat.le_of_ble_eq_true rfl) lay_39 (inB_in hn10) dX10_beginYears_10 ?_
  obtain ⟨hn11, hr⟩ := ifn hr
  refine V_iast hX (Nat.le_of_ble_eq_true rfl) lay_46 (inB_in hn11) dX10_beginYears_11 ?_
  refine V_aload_n hX dX10_beginYears_12 rfl rfl ?_
  refine G_RX10_56 hX dX10_beginYears_13 ?_
  refine V_iload_n hX dX10_beginYears_16 rfl rfl ?_
  refine V_aload_n hX dX10_beginYears_17 rfl rfl ?_
  refine G_RX10_28 hX dX10_beginYears_18 ?_
  refine V_iload_n hX dX10_beginYears_21 rfl rfl ?_
  obtain ⟨hn22, hr⟩ := ifn hr
  refine V_iald hX (Nat.le_of_ble_eq_true rfl) lay_40 (inB_in hn22) dX10_beginYears_22 ?_
  obtain ⟨hn23, hr⟩ := ifn hr
  refine V_iast hX (Nat.le_of_ble_eq_true rfl) lay_47 (inB_in hn23) dX10_beginYears_23 ?_
  refine V_iload_n hX dX10_beginYears_24 rfl rfl ?_
  refine V_bipush hX dX10_beginYears_25 bp_8 ?_
  refine V_icmp_ge (tgt := 38) hX dX10_beginYears_27 (by decide) (fun h27 => ?_) (fun h27 => ?_)
  · rw [if_pos h27] at hr
    refine V_iconst hX dX10_beginYears_38 ic_0 ?_
    refine V_mask [true, true, false, false, false, false] ?_
    exact v_X10_beginYears_39 hd9 hX hE _ _ _ hr
  · rw [if_neg h27] at hr
    refine V_aload_n hX dX10_beginYears_30 rfl rfl ?_
    refine V_iload_n hX dX10_beginYears_31 rfl rfl ?_
    obtain ⟨q1, hq1, hr⟩ := bnd hr
    refine C_RX10_212 hX (c_X10_teamsOf (by omega) hq1) (Nat.le_of_ble_eq_true rfl) dX10_beginYears_32 ?_
    refine V_goto (tgt := 39) hX dX10_beginYears_35 (by decide) ?_
    refine V_mask [true, true, false, false, false, false] ?_
    exact v_X10_beginYears_39 hd9 hX hE _ _ _ hr
