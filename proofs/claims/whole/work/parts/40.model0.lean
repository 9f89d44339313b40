def f_X10_in (p0 : Int32) (p1 : Int32) (p2 : Int32) (w : Wd) : Option (Int32 × Wd) := if p0 < p1 then
      (some (0, w))
    else
      (if p2 < p0 then
        (some (0, w))
      else
        (some (1, w)))
set_option maxRecDepth 100000 in
set_option maxHeartbeats 4000000 in
theorem c_X10_in {d : Nat} (hd9 : 0 ≤ d) {p0 : Int32} {p1 : Int32} {p2 : Int32} {w : Wd} {r : (Int32 × Wd)} (hr : f_X10_in p0 p1 p2 w = some r) : Con d yX10_in cX10_in 3 (some .boolean) [.int p0, .int p1, .int p2] w (some (.int r.1)) r.2 := by
  refine Con_of (by decide) (Nat.le_of_ble_eq_true rfl) (fun X hX hE => ?_)
  have hX : bOk cX10_in 3 RX10 d X := hX
  show bV X 0 [some (.int p0), some (.int p1), some (.int p2)] [] w
  unfold f_X10_in at hr
  refine V_iload_n hX dX10_in_0 rfl rfl ?_
  refine V_iload_n hX dX10_in_1 rfl rfl ?_
  refine V_icmp_lt (tgt := 14) hX dX10_in_2 (by decide) (fun h2 => ?_) (fun h2 => ?_)
  · rw [if_pos h2] at hr
    refine V_iconst hX dX10_in_14 ic_0 ?_
    cases hr
    exact V_iret hX hE rfl dX10_in_15
  · rw [if_neg h2] at hr
    refine V_iload_n hX dX10_in_5 rfl rfl ?_
    refine V_iload_n hX dX10_in_6 rfl rfl ?_
    refine V_icmp_gt (tgt := 14) hX dX10_in_7 (by decide) (fun h7 => ?_) (fun h7 => ?_)
    · rw [if_pos h7] at hr
      refine V_iconst hX dX10_in_14 ic_0 ?_
      cases hr
      exact V_iret hX hE rfl dX10_in_15
    · rw [if_neg h7] at hr
      refine V_iconst hX dX10_in_10 ic_1 ?_
      refine V_goto (tgt := 15) hX dX10_in_11 (by decide) ?_
      cases hr
      exact V_iret hX hE rfl dX10_in_15
def f_X10_isThing (p0 : Int32) (w : Wd) : Option (Int32 × Wd) := Option.bind (f_X10_in p0 0 13 w) fun q1 =>
    if q1.1 = 0 then
      (some (0, q1.2))
    else
      (if ((jshr (q1.2.1 33 0) p0) &&& 1) = 1 then
        (some (1, q1.2))
      else
        (some (0, q1.2)))
set_option maxRecDepth 100000 in
set_option maxHeartbeats 4000000 in
theorem c_X10_isThing {d : Nat} (hd9 : 1 ≤ d) {p0 : Int32} {w : Wd} {r : (Int32 × Wd)} (hr : f_X10_isThing p0 w = some r) : Con d yX10_isThing cX10_isThing 2 (some .boolean) [.ref 33, .int p0] w (some (.int r.1)) r.2 := by
  refine Con_of (by decide) (Nat.le_of_ble_eq_true rfl) (fun X hX hE => ?_)
  have hX : bOk cX10_isThing 2 RX10 d X := hX
  show bV X 0 [some (.ref 33), some (.int p0)] [] w
  obtain ⟨d, rfl⟩ : ∃ e, d = e + 1 := ⟨d - 1, by omega⟩
  unfold f_X10_isThing at hr
  refine V_iload_n hX dX10_isThing_0 rfl rfl ?_
  refine V_iconst hX dX10_isThing_1 ic_0 ?_
  refine V_bipush hX dX10_isThing_2 bp_13 ?_
  obtain ⟨q1, hq1, hr⟩ := bnd hr
  refine C_RX10_86 hX (c_X10_in (by omega) hq1) (Nat.le_of_ble_eq_true rfl) dX10_isThing_4 ?_
  refine V_if_eq (tgt := 26) hX dX10_isThing_7 (by decide) (fun h7 => ?_) (fun h7 => ?_)
  · rw [if_pos h7] at hr
    refine V_iconst hX dX10_isThing_26 ic_0 ?_
    cases hr
    exact V_iret hX hE rfl dX10_isThing_27
  · rw [if_neg h7] at hr
    refine V_aload_n hX dX10_isThing_10 rfl rfl ?_
    refine G_RX10_90 hX dX10_isThing_11 ?_
    refine V_iload_n hX dX10_isThing_14 rfl rfl ?_
    refine V_ishr hX dX10_isThing_15 ?_
    refine V_iconst hX dX10_isThing_16 ic_1 ?_
    refine V_iand hX dX10_isThing_17 ?_
    refine V_iconst hX dX10_isThing_18 ic_1 ?_
    refine V_icmp_ne (tgt := 26) hX dX10_isThing_19 (by decide) (fun h19 => ?_) (fun h19 => ?_)
    · rw [if_neg h19] at hr
      refine V_iconst hX dX10_isThing_26 ic_0 ?_
      cases hr
      exact V_iret hX hE rfl dX10_isThing_27
    · rw [if_pos h19] at hr
      refine V_iconst hX dX10_isThing_22 ic_1 ?_
      refine V_goto (tgt := 27) hX dX10_isThing_23 (by decide) ?_
      cases hr
      exact V_iret hX hE rfl dX10_isThing_27
def f_X10_isBundle (p0 : Int32) (w : Wd) : Option (Int32 × Wd) := Option.bind (f_X10_in p0 0 7 w) fun q1 =>
    if q1.1 = 0 then
      (some (0, q1.2))
    else
      (Option.bind (f_X10_isThing p0 q1.2) fun q2 =>
      if q2.1 = 0 then
        (some (0, q2.2))
      else
        (some (1, q2.2)))
set_option maxRecDepth 100000 in
set_option maxHeartbeats 4000000 in
theorem c_X10_isBundle {d : Nat} (hd9 : 2 ≤ d) {p0 : Int32} {w : Wd} {r : (Int32 × Wd)} (hr : f_X10_isBundle p0 w = some r) : Con d yX10_isBundle cX10_isBundle 2 (some .boolean) [.ref 33, .int p0] w (some (.int r.1)) r.2 := by
  refine Con_of (by decide) (Nat.le_of_ble_eq_true rfl) (fun X hX hE => ?_)
  have hX : bOk cX10_isBundle 2 RX10 d X := hX
  show bV X 0 [some (.ref 33), some (.int p0)] [] w
  obtain ⟨d, rfl⟩ : ∃ e, d = e + 1 := ⟨d - 1, by omega⟩
  unfold f_X10_isBundle at hr
  refine V_iload_n hX dX10_isBundle_0 rfl rfl ?_
  refine V_iconst hX dX10_isBundle_1 ic_0 ?_
  refine V_bipush hX dX10_isBundle_2 bp_7 ?_
  obtain ⟨q1, hq1, hr⟩ := bnd hr
  refine C_RX10_86 hX (c_X10_in (by omega) hq1) (Nat.le_of_ble_eq_true rfl) dX10_isBundle_4 ?_
  refine V_if_eq (tgt := 22) hX dX10_isBundle_7 (by decide) (fun h7 => ?_) (fun h7 => ?_)
  · rw [if_pos h7] at hr
    refine V_iconst hX dX10_isBundle_22 ic_0 ?_
    cases hr
    exact V_iret hX hE rfl dX10_isBundle_23
  · rw [if_neg h7] at hr
    refine V_aload_n hX dX10_isBundle_10 rfl rfl ?_
    refine V_iload_n hX dX10_isBundle_11 rfl rfl ?_
    obtain ⟨q2, hq2, hr⟩ := bnd hr
    refine C_RX10_93 hX (c_X10_isThing (by omega) hq2) (Nat.le_of_ble_eq_true rfl) dX10_isBundle_12 ?_
    refine V_if_eq (tgt := 22) hX dX10_isBundle_15 (by decide) (fun h15 => ?_) (fun h15 => ?_)
    · rw [if_pos h15] at hr
      refine V_iconst hX dX10_isBundle_22 ic_0 ?_
      cases hr
      exact V_iret hX hE rfl dX10_isBundle_23
    · rw [if_neg h15] at hr
      refine V_iconst hX dX10_isBundle_18 ic_1 ?_
      refine V_goto (tgt := 23) hX dX10_isBundle_19 (by decide) ?_
      cases hr
      exact V_iret hX hE rfl dX10_isBundle_23
def f_X10_of (p0 : Int32) (p1 : Int32) (w : Wd) : Option (Int32 × Wd) := if inB ((7 * p0) + p1) 56 then (some ((w.1 34 (ix ((7 * p0) + p1))), w)) else none
set_option maxRecDepth 100000 in
set_option maxHeartbeats 4000000 in
theorem c_X10_of {d : Nat} (hd9 : 0 ≤ d) {p0 : Int32} {p1 : Int32} {w : Wd} {r : (Int32 × Wd)} (hr : f_X10_of p0 p1 w = some r) : Con d yX10_of cX10_of 3 (some .int) [.ref 33, .int p0, .int p1] w (some (.int r.1)) r.2 := by
  refine Con_of (by decide) (Nat.le_of_ble_eq_true rfl) (fun X hX hE => ?_)
  have hX : bOk cX10_of 3 RX10 d X := hX
  show bV X 0 [some (.ref 33), some (.int p0), some (.int p1)] [] w
  unfold f_X10_of at hr
  refine V_aload_n hX dX10_of_0 rfl rfl ?_
  refine G_RX10_7 hX dX10_of_1 ?_
  refine V_bipush hX dX10_of_4 bp_7 ?_
  refine V_iload_n hX dX10_of_6 rfl rfl ?_
  refine V_imul hX dX10_of_7 ?_
  refine V_iload_n hX dX10_of_8 rfl rfl ?_
  refine V_iadd hX dX10_of_9 ?_
  obtain ⟨hn10, hr⟩ := ifn hr
  refine V_iald hX (Nat.le_of_ble_eq_true rfl) lay_34 (inB_in hn10) dX10_of_10 ?_
  cases hr
  exact V_iret hX hE rfl dX10_of_11
def f_X10_bits_4 : Nat → Int32 → Int32 → Int32 → Wd → Option (Int32 × Wd)
  | 0, _, _, _, _ => none
  | n + 1, x0, x1, x2, w => if 14 ≤ x2 then
        (some (x1, w))
      else
        (f_X10_bits_4 n x0 (x1 + ((jshr x0 x2) &&& 1)) (x2 + 1) w)
def f_X10_bits (p0 : Int32) (w : Wd) : Option (Int32 × Wd) := f_X10_bits_4 fu p0 0 0 w
set_option maxRecDepth 100000 in
set_option maxHeartbeats 4000000 in
theorem v_X10_bits_4 {d : Nat} (hd9 : 0 ≤ d) {X : bX} (hX : bOk cX10_bits 3 RX10 d X) {r : (Int32 × Wd)} (hE : bEnd (some .int) (some (.int r.1)) r.2 X) : ∀ (n : Nat) (x0 : Int32) (x1 : Int32) (x2 : Int32) (w : Wd), f_X10_bits_4 n x0 x1 x2 w = some r → bV X 4 [some (.int x0), some (.int x1), some (.int x2)] [] w := by
  intro n
  induction n with
  | zero => intro x0 x1 x2 w hr; exact absurd hr (by simp [f_X10_bits_4])
  | succ n ih =>
    intro x0 x1 x2 w hr
    rw [f_X10_bits_4] at hr
    refine V_iload_n hX dX10_bits_4 rfl rfl ?_
    refine V_bipush hX dX10_bits_5 bp_14 ?_
    refine V_icmp_ge (tgt := 24) hX dX10_bits_7 (by decide) (fun h7 => ?_) (fun h7 => ?_)
    · rw [if_pos h7] at hr
      refine V_iload_n hX dX10_bits_24 rfl rfl ?_
      cases hr
      exact V_iret hX hE rfl dX10_bits_25
    · rw [if_neg h7] at hr
      refine V_iload_n hX dX10_bits_10 rfl rfl ?_
      refine V_iload_n hX dX10_bits_11 rfl rfl ?_
      refine V_iload_n hX dX10_bits_12 rfl rfl ?_
      refine V_ishr hX dX10_bits_13 ?_
      refine V_iconst hX dX10_bits_14 ic_1 ?_
      refine V_iand hX dX10_bits_15 ?_
      refine V_iadd hX dX10_bits_16 ?_
      refine V_istore_n hX dX10_bits_17 rfl (Nat.le_of_ble_eq_true rfl) rfl ?_
      refine V_iinc hX dX10_bits_18 rfl (ii_1 _) (Nat.le_of_ble_eq_true rfl) rfl ?_
      refine V_goto (tgt := 4) hX dX10_bits_21 (by decide) ?_
      refine V_mask [true, true, true] ?_
      exact ih _ _ _ _ hr
set_option maxRecDepth 100000 in
set_option maxHeartbeats 4000000 in
theorem c_X10_bits {d : Nat} (hd9 : 0 ≤ d) {p0 : Int32} {w : Wd} {r : (Int32 × Wd)} (hr : f_X10_bits p0 w = some r) : Con d yX10_bits cX10_bits 3 (some .int) [.int p0] w (some (.int r.1)) r.2 := by
  refine Con_of (by decide) (Nat.le_of_ble_eq_true rfl) (fun X hX hE => ?_)
  have hX : bOk cX10_bits 3 RX10 d X := hX
  show bV X 0 [some (.int p0), none, none] [] w
  unfold f_X10_bits at hr
  refine V_iconst hX dX10_bits_0 ic_0 ?_
  refine V_istore_n hX dX10_bits_1 rfl (Nat.le_of_ble_eq_true rfl) rfl ?_
  refine V_iconst hX dX10_bits_2 ic_0 ?_
  refine V_istore_n hX dX10_bits_3 rfl (Nat.le_of_ble_eq_true rfl) rfl ?_
  refine V_mask [true, true, true] ?_
  exact v_X10_bits_4 hd9 hX hE _ _ _ _ _ hr
def f_X10_write_31 : Nat → Int64 → Int32 → Int32 → Wd → Option (Int32 × Wd)
  | 0, _, _, _, _ => none
  | n + 1, x1, x3, x4, w => if x3 ≤ x4 then
        (some (((wS w 33 15 ((w.1 33 15) + x3)).1 33 15), (wS w 33 15 ((w.1 33 15) + x3))))
      else
        (if inB ((w.1 33 15) + x4) 200 then (f_X10_write_31 n x1 x3 (x4 + 1) (wS w 44 (ix ((w.1 33 15) + x4)) (Int64.toInt32 ((jlshr x1 (8 * x4)) &&& 255)))) else none)
def f_X10_write (p0 : Int64) (p1 : Int32) (w : Wd) : Option (Int32 × Wd) := Option.bind (f_X10_in p1 1 8 w) fun q1 =>
    if q1.1 = 0 then
      (some ((-3), q1.2))
    else
      (if ((q1.2.1 33 15) + p1) ≤ 200 then
        (f_X10_write_31 fu p0 p1 0 q1.2)
      else
        (some ((-5), q1.2)))
set_option maxRecDepth 100000 in
set_option maxHeartbeats 4000000 in
theorem v_X10_write_31 {d : Nat} (hd9 : 1 ≤ d) {X : bX} (hX : bOk cX10_write 5 RX10 d X) {r : (Int32 × Wd)} (hE : bEnd (some .int) (some (.int r.1)) r.2 X) : ∀ (n : Nat) (x1 : Int64) (x3 : Int32) (x4 : Int32) (w : Wd), f_X10_write_31 n x1 x3 x4 w = some r → bV X 31 [some (.ref 33), some (.long x1), none, some (.int x3), some (.int x4)] [] w := by
  obtain ⟨d, rfl⟩ : ∃ e, d = e + 1 := ⟨d - 1, by omega⟩
  intro n
  induction n with
  | zero => intro x1 x3 x4 w hr; exact absurd hr (by simp [f_X10_write_31])
  | succ n ih =>
    intro x1 x3 x4 w hr
    rw [f_X10_write_31] at hr
    refine V_iload hX dX10_write_31 rfl ?_
    refine V_iload_n hX dX10_write_33 rfl rfl ?_
    refine V_icmp_ge (tgt := 67) hX dX10_write_34 (by decide) (fun h34 => ?_) (fun h34 => ?_)
    · rw [if_pos h34] at hr
      refine V_aload_n hX dX10_write_67 rfl rfl ?_
      refine V_dup hX dX10_write_68 rfl ?_
      refine G_RX10_97 hX dX10_write_69 ?_
      refine V_iload_n hX dX10_write_72 rfl rfl ?_
      refine V_iadd hX dX10_write_73 ?_
      refine P_RX10_97 hX dX10_write_74 ?_
      refine V_aload_n hX dX10_write_77 rfl rfl ?_
      refine G_RX10_97 hX dX10_write_78 ?_
      cases hr
      exact V_iret hX hE rfl dX10_write_81
    · rw [if_neg h34] at hr
      refine V_aload_n hX dX10_write_37 rfl rfl ?_
      refine G_RX10_47 hX dX10_write_38 ?_
      refine V_aload_n hX dX10_write_41 rfl rfl ?_
      refine G_RX10_97 hX dX10_write_42 ?_
      refine V_iload hX dX10_write_45 rfl ?_
      refine V_iadd hX dX10_write_47 ?_
      refine V_lload_n hX dX10_write_48 rfl rfl ?_
      refine V_bipush hX dX10_write_49 bp_8 ?_
      refine V_iload hX dX10_write_51 rfl ?_
      refine V_imul hX dX10_write_53 ?_
      refine V_lshr hX dX10_write_54 ?_
      refine V_ldc2 (v := 255) hX lc_RX10_100 dX10_write_55 ?_
      refine V_land hX dX10_write_58 ?_
      refine V_l2i hX dX10_write_59 ?_
      obtain ⟨hn60, hr⟩ := ifn hr
      refine V_iast hX (Nat.le_of_ble_eq_true rfl) lay_44 (inB_in hn60) dX10_write_60 ?_
      refine V_iinc hX dX10_write_61 rfl (ii_1 _) (Nat.le_of_ble_eq_true rfl) rfl ?_
      refine V_goto (tgt := 31) hX dX10_write_64 (by decide) ?_
      refine V_mask [true, true, false, true, true] ?_
      exact ih _ _ _ _ hr
set_option maxRecDepth 100000 in
set_option maxHeartbeats 4000000 in
theorem c_X10_write {d : Nat} (hd9 : 1 ≤ d) {p0 : Int64} {p1 : Int32} {w : Wd} {r : (Int32 × Wd)} (hr : f_X10_write p0 p1 w = some r) : Con d yX10_write cX10_write 5 (some .int) [.ref 33, .long p0, .int p1] w (some (.int r.1)) r.2 := by
  refine Con_of (by decide) (Nat.le_of_ble_eq_true rfl) (fun X hX hE => ?_)
  have hX : bOk cX10_write 5 RX10 d X := hX
  show bV X 0 [some (.ref 33), some (.long p0), none, some (.int p1), none] [] w
  obtain ⟨d, rfl⟩ : ∃ e, d = e + 1 := ⟨d - 1, by omega⟩
  unfold f_X10_write at hr
  refine V_iload_n hX dX10_write_0 rfl rfl ?_
  refine V_iconst hX dX10_write_1 ic_1 ?_
  refine V_bipush hX dX10_write_2 bp_8 ?_
  obtain ⟨q1, hq1, hr⟩ := bnd hr
  refine C_RX10_86 hX (c_X10_in (by omega) hq1) (Nat.le_of_ble_eq_true rfl) dX10_write_4 ?_
  refine V_if_ne (tgt := 13) hX dX10_write_7 (by decide) (fun h7 => ?_) (fun h7 => ?_)
  · rw [if_neg h7] at hr
    refine V_aload_n hX dX10_write_13 rfl rfl ?_
    refine G_RX10_97 hX dX10_write_14 ?_
    refine V_iload_n hX dX10_write_17 rfl rfl ?_
    refine V_iadd hX dX10_write_18 ?_
    refine V_sipush hX dX10_write_19 sp_200 ?_
    refine V_icmp_le (tgt := 28) hX dX10_write_22 (by decide) (fun h22 => ?_) (fun h22 => ?_)
    · rw [if_pos h22] at hr
      refine V_iconst hX dX10_write_28 ic_0 ?_
      refine V_istore hX dX10_write_29 (Nat.le_of_ble_eq_true rfl) rfl ?_
      refine V_mask [true, true, false, true, true] ?_
      exact v_X10_write_31 hd9 hX hE _ _ _ _ _ hr
    · rw [if_neg h22] at hr
      refine V_bipush hX dX10_write_25 bp_m5 ?_
      cases hr
      exact V_iret hX hE rfl dX10_write_27
  · rw [if_pos h7] at hr
    refine V_bipush hX dX10_write_10 bp_m3 ?_
    cases hr
    exact V_iret hX hE rfl dX10_write_12
def f_X10_erase (w : Wd) : Option (Int32 × Wd) := some ((w.1 33 15), (wS w 33 15 0))
set_option maxRecDepth 100000 in
set_option maxHeartbeats 4000000 in
theorem c_X10_erase {d : Nat} (hd9 : 0 ≤ d) {w : Wd} {r : (Int32 × Wd)} (hr : f_X10_erase w = some r) : Con d yX10_erase cX10_erase 2 (some .int) [.ref 33] w (some (.int r.1)) r.2 := by
  refine Con_of (by decide) (Nat.le_of_ble_eq_true rfl) (fun X hX hE => ?_)
  have hX : bOk cX10_erase 2 RX10 d X := hX
  show bV X 0 [some (.ref 33), none] [] w
  unfold f_X10_erase at hr
  refine V_aload_n hX dX10_erase_0 rfl rfl ?_
  refine G_RX10_97 hX dX10_erase_1 ?_
  refine V_istore_n hX dX10_erase_4 rfl (Nat.le_of_ble_eq_true rfl) rfl ?_
  refine V_aload_n hX dX10_erase_5 rfl rfl ?_
  refine V_iconst hX dX10_erase_6 ic_0 ?_
  refine P_RX10_97 hX dX10_erase_7 ?_
  refine V_iload_n hX dX10_erase_10 rfl rfl ?_
  cases hr
  exact V_iret hX hE rfl dX10_erase_11
def f_X10_nextToken_381 (s1 : Int64) (w : Wd) : Option Wd := some (wS (wL w s1) 33 17 (((wL w s1).1 33 17) + 1))
def f_X10_nextToken_333 (w : Wd) : Option Wd := if (w.1 33 20) ≤ 4 then
      (some (wL w (-1)))
    else
      (some (wL w (-4)))
def f_X10_nextToken_307 (k241 : Wd → Option Wd) (s1 : Int32) (w : Wd) : Option Wd := k241 (wS (wS (wS w 33 21 s1) 33 20 (((wS w 33 21 s1).1 33 20) + 1)) 33 17 (((wS (wS w 33 21 s1) 33 20 (((wS w 33 21 s1).1 33 20) + 1)).1 33 17) + 1))
def f_X10_nextToken_191 (w : Wd) : Option Wd := if ((w.1 33 17) - (w.1 33 18)) ≤ 9 then
      (some (wL w w.2))
    else
      (some (wL w (-4)))
def f_X10_nextToken_175 (k101 : Wd → Option Wd) (s1 : Int64) (w : Wd) : Option Wd := k101 (wS (wL w s1) 33 17 (((wL w s1).1 33 17) + 1))
def f_X10_nextToken_241 : Nat → Wd → Option Wd
  | 0, _ => none
  | n + 1, w => if (w.1 33 15) ≤ (w.1 33 17) then
        (f_X10_nextToken_333 w)
      else
        (if inB (w.1 33 17) 200 then (Option.bind (f_X10_in (w.1 44 (ix (w.1 33 17))) 48 57 w) fun q1 =>
        if q1.1 = 0 then
          (f_X10_nextToken_333 q1.2)
        else
          (if 4 ≤ (q1.2.1 33 20) then
            (f_X10_nextToken_307 (f_X10_nextToken_241 n) (q1.2.1 33 21) q1.2)
          else
            (if inB (q1.2.1 33 17) 200 then (f_X10_nextToken_307 (f_X10_nextToken_241 n) (((10 * (q1.2.1 33 21)) + (q1.2.1 44 (ix (q1.2.1 33 17)))) - 48) q1.2) else none))) else none)
def f_X10_nextToken_101 : Nat → Wd → Option Wd
  | 0, _ => none
  | n + 1, w => if (w.1 33 15) ≤ (w.1 33 17) then
        (f_X10_nextToken_191 w)
      else
        (if inB (w.1 33 17) 200 then (Option.bind (f_X10_in (w.1 44 (ix (w.1 33 17))) 97 122 w) fun q1 =>
        if q1.1 = 0 then
          (f_X10_nextToken_191 q1.2)
        else
          (if 9 ≤ ((q1.2.1 33 17) - (q1.2.1 33 18)) then
            (f_X10_nextToken_175 (f_X10_nextToken_101 n) (-4) q1.2)
          else
            (if inB (q1.2.1 33 17) 200 then (f_X10_nextToken_175 (f_X10_nextToken_101 n) (((27 * q1.2.2) + (Int32.toInt64 (q1.2.1 44 (ix (q1.2.1 33 17))))) - 96) q1.2) else none))) else none)
def f_X10_nextToken_38 (w : Wd) : Option Wd := if ((wS (wS (wS w 33 18 (w.1 33 17)) 33 20 0) 33 21 0).1 33 17) = ((wS (wS (wS w 33 18 (w.1 33 17)) 33 20 0) 33 21 0).1 33 15) then
      (some (wL (wS (wS (wS w 33 18 (w.1 33 17)) 33 20 0) 33 21 0) (-2)))
    else
      (if inB ((wS (wS (wS w 33 18 (w.1 33 17)) 33 20 0) 33 21 0).1 33 17) 200 then (Option.bind (f_X10_in ((wS (wS (wS w 33 18 (w.1 33 17)) 33 20 0) 33 21 0).1 44 (ix ((wS (wS (wS w 33 18 (w.1 33 17)) 33 20 0) 33 21 0).1 33 17))) 97 122 (wS (wS (wS w 33 18 (w.1 33 17)) 33 20 0) 33 21 0)) fun q1 =>
      if q1.1 = 0 then
        (if inB (q1.2.1 33 17) 200 then (Option.bind (f_X10_in (q1.2.1 44 (ix (q1.2.1 33 17))) 48 57 q1.2) fun q2 =>
        if q2.1 = 0 then
          (if inB (q2.2.1 33 17) 200 then (if (q2.2.1 44 (ix (q2.2.1 33 17))) = 59 then
            (f_X10_nextToken_381 (-3) q2.2)
          else
            (f_X10_nextToken_381 (-4) q2.2)) else none)
        else
          (f_X10_nextToken_241 fu q2.2)) else none)
      else
        (f_X10_nextToken_101 fu (wL q1.2 0))) else none)
def f_X10_nextToken_0 : Nat → Wd → Option Wd
  | 0, _ => none
  | n + 1, w => if (w.1 33 15) ≤ (w.1 33 17) then
        (f_X10_nextToken_38 w)
      else
        (if inB (w.1 33 17) 200 then (if (w.1 44 (ix (w.1 33 17))) = 32 then
          (f_X10_nextToken_0 n (wS w 33 17 ((w.1 33 17) + 1)))
        else
          (f_X10_nextToken_38 w)) else none)
def f_X10_nextToken (w : Wd) : Option Wd := f_X10_nextToken_0 fu w
set_option maxRecDepth 100000 in
set_option maxHeartbeats 4000000 in
theorem v_X10_nextToken_381 {d : Nat} (hd9 : 1 ≤ d) {X : bX} (hX : bOk cX10_nextToken 1 RX10 d X) {r : Wd} (hE : bEnd none none r X) : ∀ (s1 : Int64) (w : Wd), f_X10_nextToken_381 s1 w = some r → bV X 381 [some (.ref 33)] [.long s1, .ref 33] w := by
  intro s1 w hr
  obtain ⟨d, rfl⟩ : ∃ e, d = e + 1 := ⟨d - 1, by omega⟩
  unfold f_X10_nextToken_381 at hr
  refine P_RX10_116 hX dX10_nextToken_381 ?_
  refine V_aload_n hX dX10_nextToken_384 rfl rfl ?_
  refine V_dup hX dX10_nextToken_385 rfl ?_
  refine G_RX10_102 hX dX10_nextToken_386 ?_
  refine V_iconst hX dX10_nextToken_389 ic_1 ?_
  refine V_iadd hX dX10_nextToken_390 ?_
  refine P_RX10_102 hX dX10_nextToken_391 ?_
  cases hr
  exact V_vret hX hE dX10_nextToken_394
set_option maxRecDepth 100000 in
set_option maxHeartbeats 4000000 in
theorem v_X10_nextToken_333 {d : Nat} (hd9 : 1 ≤ d) {X : bX} (hX : bOk cX10_nextToken 1 RX10 d X) {r : Wd} (hE : bEnd none none r X) : ∀ (w : Wd), f_X10_nextToken_333 w = some r → bV X 333 [some (.ref 33)] [] w := by
  intro w hr
  obtain ⟨d, rfl⟩ : ∃ e, d = e + 1 := ⟨d - 1, by omega⟩
  unfold f_X10_nextToken_333 at hr
  refine V_aload_n hX dX10_nextToken_333 rfl rfl ?_
  refine V_aload_n hX dX10_nextToken_334 rfl rfl ?_
  refine G_RX10_108 hX dX10_nextToken_335 ?_
  refine V_iconst hX dX10_nextToken_338 ic_4 ?_
  refine V_icmp_le (tgt := 348) hX dX10_nextToken_339 (by decide) (fun h339 => ?_) (fun h339 => ?_)
  · rw [if_pos h339] at hr
    refine V_ldc2 (v := (-1)) hX lc_RX10_126 dX10_nextToken_348 ?_
    refine P_RX10_116 hX dX10_nextToken_351 ?_
    refine V_goto (tgt := 394) hX dX10_nextToken_354 (by decide) ?_
    cases hr
    exact V_vret hX hE dX10_nextToken_394
  · rw [if_neg h339] at hr
    refine V_ldc2 (v := (-4)) hX lc_RX10_124 dX10_nextToken_342 ?_
    refine V_goto (tgt := 351) hX dX10_nextToken_345 (by decide) ?_
    refine P_RX10_116 hX dX10_nextToken_351 ?_
    refine V_goto (tgt := 394) hX dX10_nextToken_354 (by decide) ?_
    cases hr
    exact V_vret hX hE dX10_nextToken_394
set_option maxRecDepth 100000 in
set_option maxHeartbeats 4000000 in
theorem v_X10_nextToken_307 {d : Nat} (hd9 : 1 ≤ d) {X : bX} (hX : bOk cX10_nextToken 1 RX10 d X) {r : Wd} (hE : bEnd none none r X) {k241 : Wd → Option Wd} (hk241 : ∀ (w : Wd), k241 w = some r → bV X 241 [some (.ref 33)] [] w) : ∀ (s1 : Int32) (w : Wd), f_X10_nextToken_307 k241 s1 w = some r → bV X 307 [some (.ref 33)] [.int s1, .ref 33] w := by
  intro s1 w hr
  obtain ⟨d, rfl⟩ : ∃ e, d = e + 1 := ⟨d - 1, by omega⟩
  unfold f_X10_nextToken_307 at hr
  refine P_RX10_111 hX dX10_nextToken_307 ?_
  refine V_aload_n hX dX10_nextToken_310 rfl rfl ?_
  refine V_dup hX dX10_nextToken_311 rfl ?_
  refine G_RX10_108 hX dX10_nextToken_312 ?_
  refine V_iconst hX dX10_nextToken_315 ic_1 ?_
  refine V_iadd hX dX10_nextToken_316 ?_
  refine P_RX10_108 hX dX10_nextToken_317 ?_
  refine V_aload_n hX dX10_nextToken_320 rfl rfl ?_
  refine V_dup hX dX10_nextToken_321 rfl ?_
  refine G_RX10_102 hX dX10_nextToken_322 ?_
  refine V_iconst hX dX10_nextToken_325 ic_1 ?_
  refine V_iadd hX dX10_nextToken_326 ?_
  refine P_RX10_102 hX dX10_nextToken_327 ?_
  refine V_goto (tgt := 241) hX dX10_nextToken_330 (by decide) ?_
  refine V_mask [true] ?_
  exact hk241 _ hr
set_option maxRecDepth 100000 in
set_option maxHeartbeats 4000000 in
theorem v_X10_nextToken_191 {d : Nat} (hd9 : 1 ≤ d) {X : bX} (hX : bOk cX10_nextToken 1 RX10 d X) {r : Wd} (hE : bEnd none none r X) : ∀ (w : Wd), f_X10_nextToken_191 w = some r → bV X 191 [some (.ref 33)] [] w := by
  intro w hr
  obtain ⟨d, rfl⟩ : ∃ e, d = e + 1 := ⟨d - 1, by omega⟩
  unfold f_X10_nextToken_191 at hr
  refine V_aload_n hX dX10_nextToken_191 rfl rfl ?_
  refine V_aload_n hX dX10_nextToken_192 rfl rfl ?_
  refine G_RX10_102 hX dX10_nextToken_193 ?_
  refine V_aload_n hX dX10_nextToken_196 rfl rfl ?_
  refine G_RX10_105 hX dX10_nextToken_197 ?_
  refine V_isub hX dX10_nextToken_200 ?_
  refine V_bipush hX dX10_nextToken_201 bp_9 ?_
  refine V_icmp_le (tgt := 212) hX dX10_nextToken_203 (by decide) (fun h203 => ?_) (fun h203 => ?_)
  · rw [if_pos h203] at hr
    refine V_aload_n hX dX10_nextToken_212 rfl rfl ?_
    refine G_RX10_116 hX dX10_nextToken_213 ?_
    refine P_RX10_116 hX dX10_nextToken_216 ?_
    refine V_goto (tgt := 394) hX dX10_nextToken_219 (by decide) ?_
    cases hr
    exact V_vret hX hE dX10_nextToken_394
  · rw [if_neg h203] at hr
    refine V_ldc2 (v := (-4)) hX lc_RX10_124 dX10_nextToken_206 ?_
    refine V_goto (tgt := 216) hX dX10_nextToken_209 (by decide) ?_
    refine P_RX10_116 hX dX10_nextToken_216 ?_
    refine V_goto (tgt := 394) hX dX10_nextToken_219 (by decide) ?_
    cases hr
    exact V_vret hX hE dX10_nextToken_394
set_option maxRecDepth 100000 in
set_option maxHeartbeats 4000000 in
theorem v_X10_nextToken_175 {d : Nat} (hd9 : 1 ≤ d) {X : bX} (hX : bOk cX10_nextToken 1 RX10 d X) {r : Wd} (hE : bEnd none none r X) {k101 : Wd → Option Wd} (hk101 : ∀ (w : Wd), k101 w = some r → bV X 101 [some (.ref 33)] [] w) : ∀ (s1 : Int64) (w : Wd), f_X10_nextToken_175 k101 s1 w = some r → bV X 175 [some (.ref 33)] [.long s1, .ref 33] w := by
  intro s1 w hr
  obtain ⟨d, rfl⟩ : ∃ e, d = e + 1 := ⟨d - 1, by omega⟩
  unfold f_X10_nextToken_175 at hr
  refine P_RX10_116 hX dX10_nextToken_175 ?_
  refine V_aload_n hX dX10_nextToken_178 rfl rfl ?_
  refine V_dup hX dX10_nextToken_179 rfl ?_
  refine G_RX10_102 hX dX10_nextToken_180 ?_
  refine V_iconst hX dX10_nextToken_183 ic_1 ?_
  refine V_iadd hX dX10_nextToken_184 ?_
  refine P_RX10_102 hX dX10_nextToken_185 ?_
  refine V_goto (tgt := 101) hX dX10_nextToken_188 (by decide) ?_
  refine V_mask [true] ?_
  exact hk101 _ hr
set_option maxRecDepth 100000 in
set_option maxHeartbeats 4000000 in
theorem v_X10_nextToken_241 {d : Nat} (hd9 : 1 ≤ d) {X : bX} (hX : bOk cX10_nextToken 1 RX10 d X) {r : Wd} (hE : bEnd none none r X) : ∀ (n : Nat) (w : Wd), f_X10_nextToken_241 n w = some r → bV X 241 [some (.ref 33)] [] w := by
  obtain ⟨d, rfl⟩ : ∃ e, d = e + 1 := ⟨d - 1, by omega⟩
  intro n
  induction n with
  | zero => intro w hr; exact absurd hr (by simp [f_X10_nextToken_241])
  | succ n ih =>
    intro w hr
    rw [f_X10_nextToken_241] at hr
    refine V_aload_n hX dX10_nextToken_241 rfl rfl ?_
    refine G_RX10_102 hX dX10_nextToken_242 ?_
    refine V_aload_n hX dX10_nextToken_245 rfl rfl ?_
    refine G_RX10_97 hX dX10_nextToken_246 ?_
    refine V_icmp_ge (tgt := 333) hX dX10_nextToken_249 (by decide) (fun h249 => ?_) (fun h249 => ?_)
    · rw [if_pos h249] at hr
      refine V_mask [true] ?_
      exact v_X10_nextToken_333 hd9 hX hE _ hr
    · rw [if_neg h249] at hr
      refine V_aload_n hX dX10_nextToken_252 rfl rfl ?_
      refine G_RX10_47 hX dX10_nextToken_253 ?_
      refine V_aload_n hX dX10_nextToken_256 rfl rfl ?_
      refine G_RX10_102 hX dX10_nextToken_257 ?_
      obtain ⟨hn260, hr⟩ := ifn hr
      refine V_iald hX (Nat.le_of_ble_eq_true rfl) lay_44 (inB_in hn260) dX10_nextToken_260 ?_
      refine V_bipush hX dX10_nextToken_261 bp_48 ?_
      refine V_bipush hX dX10_nextToken_263 bp_57 ?_
      obtain ⟨q1, hq1, hr⟩ := bnd hr
      refine C_RX10_86 hX (c_X10_in (by omega) hq1) (Nat.le_of_ble_eq_true rfl) dX10_nextToken_265 ?_
      refine V_if_eq (tgt := 333) hX dX10_nextToken_268 (by decide) (fun h268 => ?_) (fun h268 => ?_)
      · rw [if_pos h268] at hr
        refine V_mask [true] ?_
        exact v_X10_nextToken_333 hd9 hX hE _ hr
      · rw [if_neg h268] at hr
        refine V_aload_n hX dX10_nextToken_271 rfl rfl ?_
        refine V_aload_n hX dX10_nextToken_272 rfl rfl ?_
        refine G_RX10_108 hX dX10_nextToken_273 ?_
        refine V_iconst hX dX10_nextToken_276 ic_4 ?_
        refine V_icmp_ge (tgt := 303) hX dX10_nextToken_277 (by decide) (fun h277 => ?_) (fun h277 => ?_)
        · rw [if_pos h277] at hr
          refine V_aload_n hX dX10_nextToken_303 rfl rfl ?_
          refine G_RX10_111 hX dX10_nextToken_304 ?_
          refine V_mask [true] ?_
          exact v_X10_nextToken_307 hd9 hX hE ih _ _ hr
        · rw [if_neg h277] at hr
          refine V_bipush hX dX10_nextToken_280 bp_10 ?_
          refine V_aload_n hX dX10_nextToken_282 rfl rfl ?_
          refine G_RX10_111 hX dX10_nextToken_283 ?_
          refine V_imul hX dX10_nextToken_286 ?_
          refine V_aload_n hX dX10_nextToken_287 rfl rfl ?_
          refine G_RX10_47 hX dX10_nextToken_288 ?_
          refine V_aload_n hX dX10_nextToken_291 rfl rfl ?_
          refine G_RX10_102 hX dX10_nextToken_292 ?_
          obtain ⟨hn295, hr⟩ := ifn hr
          refine V_iald hX (Nat.le_of_ble_eq_true rfl) lay_44 (inB_in hn295) dX10_nextToken_295 ?_
          refine V_iadd hX dX10_nextToken_296 ?_
          refine V_bipush hX dX10_nextToken_297 bp_48 ?_
          refine V_isub hX dX10_nextToken_299 ?_
          refine V_goto (tgt := 307) hX dX10_nextToken_300 (by decide) ?_
          refine V_mask [true] ?_
          exact v_X10_nextToken_307 hd9 hX hE ih _ _ hr
set_option maxRecDepth 100000 in
set_option maxHeartbeats 4000000 in
theorem v_X10_nextToken_101 {d : Nat} (hd9 : 1 ≤ d) {X : bX} (hX : bOk cX10_nextToken 1 RX10 d X) {r : Wd} (hE : bEnd none none r X) : ∀ (n : Nat) (w : Wd), f_X10_nextToken_101 n w = some r → bV X 101 [some (.ref 33)] [] w := by
  obtain ⟨d, rfl⟩ : ∃ e, d = e + 1 := ⟨d - 1, by omega⟩
  intro n
  induction n with
  | zero => intro w hr; exact absurd hr (by simp [f_X10_nextToken_101])
  | succ n ih =>
    intro w hr
    rw [f_X10_nextToken_101] at hr
    refine V_aload_n hX dX10_nextToken_101 rfl rfl ?_
    refine G_RX10_102 hX dX10_nextToken_102 ?_
    refine V_aload_n hX dX10_nextToken_105 rfl rfl ?_
    refine G_RX10_97 hX dX10_nextToken_106 ?_
    refine V_icmp_ge (tgt := 191) hX dX10_nextToken_109 (by decide) (fun h109 => ?_) (fun h109 => ?_)
    · rw [if_pos h109] at hr
      refine V_mask [true] ?_
      exact v_X10_nextToken_191 hd9 hX hE _ hr
    · rw [if_neg h109] at hr
      refine V_aload_n hX dX10_nextToken_112 rfl rfl ?_
      refine G_RX10_47 hX dX10_nextToken_113 ?_
      refine V_aload_n hX dX10_nextToken_116 rfl rfl ?_
      refine G_RX10_102 hX dX10_nextToken_117 ?_
      obtain ⟨hn120, hr⟩ := ifn hr
      refine V_iald hX (Nat.le_of_ble_eq_true rfl) lay_44 (inB_in hn120) dX10_nextToken_120 ?_
      refine V_bipush hX dX10_nextToken_121 bp_97 ?_
      refine V_bipush hX dX10_nextToken_123 bp_122 ?_
      obtain ⟨q1, hq1, hr⟩ := bnd hr
      refine C_RX10_86 hX (c_X10_in (by omega) hq1) (Nat.le_of_ble_eq_true rfl) dX10_nextToken_125 ?_
      refine V_if_eq (tgt := 191) hX dX10_nextToken_128 (by decide) (fun h128 => ?_) (fun h128 => ?_)
      · rw [if_pos h128] at hr
        refine V_mask [true] ?_
        exact v_X10_nextToken_191 hd9 hX hE _ hr
      · rw [if_neg h128] at hr
        refine V_aload_n hX dX10_nextToken_131 rfl rfl ?_
        refine V_aload_n hX dX10_nextToken_132 rfl rfl ?_
        refine G_RX10_102 hX dX10_nextToken_133 ?_
        refine V_aload_n hX dX10_nextToken_136 rfl rfl ?_
        refine G_RX10_105 hX dX10_nextToken_137 ?_
        refine V_isub hX dX10_nextToken_140 ?_
        refine V_bipush hX dX10_nextToken_141 bp_9 ?_
        refine V_icmp_ge (tgt := 172) hX dX10_nextToken_143 (by decide) (fun h143 => ?_) (fun h143 => ?_)
        · rw [if_pos h143] at hr
          refine V_ldc2 (v := (-4)) hX lc_RX10_124 dX10_nextToken_172 ?_
          refine V_mask [true] ?_
          exact v_X10_nextToken_175 hd9 hX hE ih _ _ hr
        · rw [if_neg h143] at hr
          refine V_ldc2 (v := 27) hX lc_RX10_120 dX10_nextToken_146 ?_
          refine V_aload_n hX dX10_nextToken_149 rfl rfl ?_
          refine G_RX10_116 hX dX10_nextToken_150 ?_
          refine V_lmul hX dX10_nextToken_153 ?_
          refine V_aload_n hX dX10_nextToken_154 rfl rfl ?_
          refine G_RX10_47 hX dX10_nextToken_155 ?_
          refine V_aload_n hX dX10_nextToken_158 rfl rfl ?_
          refine G_RX10_102 hX dX10_nextToken_159 ?_
          obtain ⟨hn162, hr⟩ := ifn hr
          refine V_iald hX (Nat.le_of_ble_eq_true rfl) lay_44 (inB_in hn162) dX10_nextToken_162 ?_
          refine V_i2l hX dX10_nextToken_163 ?_
          refine V_ladd hX dX10_nextToken_164 ?_
          refine V_ldc2 (v := 96) hX lc_RX10_122 dX10_nextToken_165 ?_
          refine V_lsub hX dX10_nextToken_168 ?_
          refine V_goto (tgt := 175) hX dX10_nextToken_169 (by decide) ?_
          refine V_mask [true] ?_
          exact v_X10_nextToken_175 hd9 hX hE ih _ _ hr
set_option maxRecDepth 100000 in
set_option maxHeartbeats 4000000 in
theorem v_X10_nextToken_38 {d : Nat} (hd9 : 1 ≤ d) {X : bX} (hX : bOk cX10_nextToken 1 RX10 d X) {r : Wd} (hE : bEnd none none r X) : ∀ (w : Wd), f_X10_nextToken_38 w = some r → bV X 38 [some (.ref 33)] [] w := by
  intro w hr
  obtain ⟨d, rfl⟩ : ∃ e, d = e + 1 := ⟨d - 1, by omega⟩
  unfold f_X10_nextToken_38 at hr
  refine V_aload_n hX dX10_nextToken_38 rfl rfl ?_
  refine V_aload_n hX dX10_nextToken_39 rfl rfl ?_
  refine G_RX10_102 hX dX10_nextToken_40 ?_
  refine P_RX10_105 hX dX10_nextToken_43 ?_
  refine V_aload_n hX dX10_nextToken_46 rfl rfl ?_
  refine V_iconst hX dX10_nextToken_47 ic_0 ?_
  refine P_RX10_108 hX dX10_nextToken_48 ?_
  refine V_aload_n hX dX10_nextToken_51 rfl rfl ?_
  refine V_iconst hX dX10_nextToken_52 ic_0 ?_
  refine P_RX10_111 hX dX10_nextToken_53 ?_
  refine V_aload_n hX dX10_nextToken_56 rfl rfl ?_
  refine G_RX10_102 hX dX10_nextToken_57 ?_
  refine V_aload_n hX dX10_nextToken_60 rfl rfl ?_
  refine G_RX10_97 hX dX10_nextToken_61 ?_
  refine V_icmp_ne (tgt := 77) hX dX10_nextToken_64 (by decide) (fun h64 => ?_) (fun h64 => ?_)
  · rw [if_neg h64] at hr
    refine V_aload_n hX dX10_nextToken_77 rfl rfl ?_
    refine G_RX10_47 hX dX10_nextToken_78 ?_
    refine V_aload_n hX dX10_nextToken_81 rfl rfl ?_
    refine G_RX10_102 hX dX10_nextToken_82 ?_
    obtain ⟨hn85, hr⟩ := ifn hr
    refine V_iald hX (Nat.le_of_ble_eq_true rfl) lay_44 (inB_in hn85) dX10_nextToken_85 ?_
    refine V_bipush hX dX10_nextToken_86 bp_97 ?_
    refine V_bipush hX dX10_nextToken_88 bp_122 ?_
    obtain ⟨q1, hq1, hr⟩ := bnd hr
    refine C_RX10_86 hX (c_X10_in (by omega) hq1) (Nat.le_of_ble_eq_true rfl) dX10_nextToken_90 ?_
    refine V_if_eq (tgt := 222) hX dX10_nextToken_93 (by decide) (fun h93 => ?_) (fun h93 => ?_)
    · rw [if_pos h93] at hr
      refine V_aload_n hX dX10_nextToken_222 rfl rfl ?_
      refine G_RX10_47 hX dX10_nextToken_223 ?_
      refine V_aload_n hX dX10_nextToken_226 rfl rfl ?_
      refine G_RX10_102 hX dX10_nextToken_227 ?_
      obtain ⟨hn230, hr⟩ := ifn hr
      refine V_iald hX (Nat.le_of_ble_eq_true rfl) lay_44 (inB_in hn230) dX10_nextToken_230 ?_
      refine V_bipush hX dX10_nextToken_231 bp_48 ?_
      refine V_bipush hX dX10_nextToken_233 bp_57 ?_
      obtain ⟨q2, hq2, hr⟩ := bnd hr
      refine C_RX10_86 hX (c_X10_in (by omega) hq2) (Nat.le_of_ble_eq_true rfl) dX10_nextToken_235 ?_
      refine V_if_eq (tgt := 357) hX dX10_nextToken_238 (by decide) (fun h238 => ?_) (fun h238 => ?_)
      · rw [if_pos h238] at hr
        refine V_aload_n hX dX10_nextToken_357 rfl rfl ?_
        refine V_aload_n hX dX10_nextToken_358 rfl rfl ?_
        refine G_RX10_47 hX dX10_nextToken_359 ?_
        refine V_aload_n hX dX10_nextToken_362 rfl rfl ?_
        refine G_RX10_102 hX dX10_nextToken_363 ?_
        obtain ⟨hn366, hr⟩ := ifn hr
        refine V_iald hX (Nat.le_of_ble_eq_true rfl) lay_44 (inB_in hn366) dX10_nextToken_366 ?_
        refine V_bipush hX dX10_nextToken_367 bp_59 ?_
        refine V_icmp_ne (tgt := 378) hX dX10_nextToken_369 (by decide) (fun h369 => ?_) (fun h369 => ?_)
        · rw [if_neg h369] at hr
          refine V_ldc2 (v := (-4)) hX lc_RX10_124 dX10_nextToken_378 ?_
          refine V_mask [true] ?_
          exact v_X10_nextToken_381 hd9 hX hE _ _ hr
        · rw [if_pos h369] at hr
          refine V_ldc2 (v := (-3)) hX lc_RX10_128 dX10_nextToken_372 ?_
          refine V_goto (tgt := 381) hX dX10_nextToken_375 (by decide) ?_
          refine V_mask [true] ?_
          exact v_X10_nextToken_381 hd9 hX hE _ _ hr
      · rw [if_neg h238] at hr
        refine V_mask [true] ?_
        exact v_X10_nextToken_241 hd9 hX hE _ _ hr
    · rw [if_neg h93] at hr
      refine V_aload_n hX dX10_nextToken_96 rfl rfl ?_
      refine V_lconst (v := 0) hX dX10_nextToken_97 (by decide) ?_
      refine P_RX10_116 hX dX10_nextToken_98 ?_
      refine V_mask [true] ?_
      exact v_X10_nextToken_101 hd9 hX hE _ _ hr
  · rw [if_pos h64] at hr
    refine V_aload_n hX dX10_nextToken_67 rfl rfl ?_
    refine V_ldc2 (v := (-2)) hX lc_RX10_114 dX10_nextToken_68 ?_
    refine P_RX10_116 hX dX10_nextToken_71 ?_
    refine V_goto (tgt := 394) hX dX10_nextToken_74 (by decide) ?_
    cases hr
    exact V_vret hX hE dX10_nextToken_394
set_option maxRecDepth 100000 in
set_option maxHeartbeats 4000000 in
theorem v_X10_nextToken_0 {d : Nat} (hd9 : 1 ≤ d) {X : bX} (hX : bOk cX10_nextToken 1 RX10 d X) {r : Wd} (hE : bEnd none none r X) : ∀ (n : Nat) (w : Wd), f_X10_nextToken_0 n w = some r → bV X 0 [some (.ref 33)] [] w := by
  obtain ⟨d, rfl⟩ : ∃ e, d = e + 1 := ⟨d - 1, by omega⟩
  intro n
  induction n with
  | zero => intro w hr; exact absurd hr (by simp [f_X10_nextToken_0])
  | succ n ih =>
    intro w hr
    rw [f_X10_nextToken_0] at hr
    refine V_aload_n hX dX10_nextToken_0 rfl rfl ?_
    refine G_RX10_102 hX dX10_nextToken_1 ?_
    refine V_aload_n hX dX10_nextToken_4 rfl rfl ?_
    refine G_RX10_97 hX dX10_nextToken_5 ?_
    refine V_icmp_ge (tgt := 38) hX dX10_nextToken_8 (by decide) (fun h8 => ?_) (fun h8 => ?_)
    · rw [if_pos h8] at hr
      refine V_mask [true] ?_
      exact v_X10_nextToken_38 hd9 hX hE _ hr
    · rw [if_neg h8] at hr
      refine V_aload_n hX dX10_nextToken_11 rfl rfl ?_
      refine G_RX10_47 hX dX10_nextToken_12 ?_
      refine V_aload_n hX dX10_nextToken_15 rfl rfl ?_
      refine G_RX10_102 hX dX10_nextToken_16 ?_
      obtain ⟨hn19, hr⟩ := ifn hr
      refine V_iald hX (Nat.le_of_ble_eq_true rfl) lay_44 (inB_in hn19) dX10_nextToken_19 ?_
      refine V_bipush hX dX10_nextToken_20 bp_32 ?_
      refine V_icmp_ne (tgt := 38) hX dX10_nextToken_22 (by decide) (fun h22 => ?_) (fun h22 => ?_)
      · rw [if_neg h22] at hr
        refine V_mask [true] ?_
        exact v_X10_nextToken_38 hd9 hX hE _ hr
      · rw [if_pos h22] at hr
        refine V_aload_n hX dX10_nextToken_25 rfl rfl ?_
        refine V_dup hX dX10_nextToken_26 rfl ?_
        refine G_RX10_102 hX dX10_nextToken_27 ?_
        refine V_iconst hX dX10_nextToken_30 ic_1 ?_
        refine V_iadd hX dX10_nextToken_31 ?_
        refine P_RX10_102 hX dX10_nextToken_32 ?_
        refine V_goto (tgt := 0) hX dX10_nextToken_35 (by decide) ?_
        refine V_mask [true] ?_
        exact ih _ hr
set_option maxRecDepth 100000 in
set_option maxHeartbeats 4000000 in
theorem c_X10_nextToken {d : Nat} (hd9 : 1 ≤ d) {w : Wd} {r : Wd} (hr : f_X10_nextToken w = some r) : Con d yX10_nextToken cX10_nextToken 1 none [.ref 33] w none r := by
  refine Con_of (by decide) (Nat.le_of_ble_eq_true rfl) (fun X hX hE => ?_)
  have hX : bOk cX10_nextToken 1 RX10 d X := hX
  show bV X 0 [some (.ref 33)] [] w
  obtain ⟨d, rfl⟩ : ∃ e, d = e + 1 := ⟨d - 1, by omega⟩
  unfold f_X10_nextToken at hr
  refine V_mask [true] ?_
  exact v_X10_nextToken_0 hd9 hX hE _ _ hr
def f_X10_fails (w : Wd) : Option (Int32 × Wd) := some (0, (wS w 33 22 (w.1 33 18)))
set_option maxRecDepth 100000 in
set_option maxHeartbeats 4000000 in
theorem c_X10_fails {d : Nat} (hd9 : 0 ≤ d) {w : Wd} {r : (Int32 × Wd)} (hr : f_X10_fails w = some r) : Con d yX10_fails cX10_fails 1 (some .boolean) [.ref 33] w (some (.int r.1)) r.2 := by
  refine Con_of (by decide) (Nat.le_of_ble_eq_true rfl) (fun X hX hE => ?_)
  have hX : bOk cX10_fails 1 RX10 d X := hX
  show bV X 0 [some (.ref 33)] [] w
  unfold f_X10_fails at hr
  refine V_aload_n hX dX10_fails_0 rfl rfl ?_
  refine V_aload_n hX dX10_fails_1 rfl rfl ?_
  refine G_RX10_105 hX dX10_fails_2 ?_
  refine P_RX10_130 hX dX10_fails_5 ?_
  refine V_iconst hX dX10_fails_8 ic_0 ?_
  cases hr
  exact V_iret hX hE rfl dX10_fails_9
def f_X10_isNumber_27 (w : Wd) : Option (Int32 × Wd) := Option.bind (f_X10_fails w) fun q1 =>
    if bo q1.1 then some (q1.1, q1.2) else none
def f_X10_isNumber (p0 : Int32) (p1 : Int32) (p2 : Int32) (w : Wd) : Option (Int32 × Wd) := Option.bind (f_X10_nextToken w) fun q1 =>
    if (lg_cmp q1.2 (-1)) = 0 then
      (Option.bind (f_X10_in (q1.1 33 21) p1 p2 q1) fun q2 =>
      if q2.1 = 0 then
        (f_X10_isNumber_27 q2.2)
      else
        (if inB p0 88 then (some (1, (wS q2.2 45 (ix p0) (q2.2.1 33 21)))) else none))
    else
      (f_X10_isNumber_27 q1)
set_option maxRecDepth 100000 in
set_option maxHeartbeats 4000000 in
theorem v_X10_isNumber_27 {d : Nat} (hd9 : 2 ≤ d) {X : bX} (hX : bOk cX10_isNumber 4 RX10 d X) {r : (Int32 × Wd)} (hE : bEnd (some .boolean) (some (.int r.1)) r.2 X) : ∀ (w : Wd), f_X10_isNumber_27 w = some r → bV X 27 [some (.ref 33), none, none, none] [] w := by
  intro w hr
  obtain ⟨d, rfl⟩ : ∃ e, d = e + 1 := ⟨d - 1, by omega⟩
  unfold f_X10_isNumber_27 at hr
  refine V_aload_n hX dX10_isNumber_27 rfl rfl ?_
  obtain ⟨q1, hq1, hr⟩ := bnd hr
  refine C_RX10_136 hX (c_X10_fails (by omega) hq1) (Nat.le_of_ble_eq_true rfl) dX10_isNumber_28 ?_
  obtain ⟨hbo, hr⟩ := ifn hr
  cases hr
  exact V_iret hX hE (bo_nar hbo) dX10_isNumber_31
set_option maxRecDepth 100000 in
set_option maxHeartbeats 4000000 in
theorem c_X10_isNumber {d : Nat} (hd9 : 2 ≤ d) {p0 : Int32} {p1 : Int32} {p2 : Int32} {w : Wd} {r : (Int32 × Wd)} (hr : f_X10_isNumber p0 p1 p2 w = some r) : Con d yX10_isNumber cX10_isNumber 4 (some .boolean) [.ref 33, .int p0, .int p1, .int p2] w (some (.int r.1)) r.2 := by
  refine Con_of (by decide) (Nat.le_of_ble_eq_true rfl) (fun X hX hE => ?_)
  have hX : bOk cX10_isNumber 4 RX10 d X := hX
  show bV X 0 [some (.ref 33), some (.int p0), some (.int p1), some (.int p2)] [] w
  obtain ⟨d, rfl⟩ : ∃ e, d = e + 1 := ⟨d - 1, by omega⟩
  unfold f_X10_isNumber at hr
  refine V_aload_n hX dX10_isNumber_0 rfl rfl ?_
  obtain ⟨q1, hq1, hr⟩ := bnd hr
  refine C_RX10_133 hX (c_X10_nextToken (by omega) hq1) (Nat.le_of_ble_eq_true rfl) dX10_isNumber_1 ?_
  refine V_aload_n hX dX10_isNumber_4 rfl rfl ?_
  refine G_RX10_116 hX dX10_isNumber_5 ?_
  refine V_ldc2 (v := (-1)) hX lc_RX10_126 dX10_isNumber_8 ?_
  refine V_lcmp hX dX10_isNumber_11 ?_
  refine V_if_ne (tgt := 27) hX dX10_isNumber_12 (by decide) (fun h12 => ?_) (fun h12 => ?_)
  · rw [if_neg h12] at hr
    refine V_mask [true, false, false, false] ?_
    exact v_X10_isNumber_27 hd9 hX hE _ hr
  · rw [if_pos h12] at hr
    refine V_aload_n hX dX10_isNumber_15 rfl rfl ?_
    refine G_RX10_111 hX dX10_isNumber_16 ?_
    refine V_iload_n hX dX10_isNumber_19 rfl rfl ?_
    refine V_iload_n hX dX10_isNumber_20 rfl rfl ?_
    obtain ⟨q2, hq2, hr⟩ := bnd hr
    refine C_RX10_86 hX (c_X10_in (by omega) hq2) (Nat.le_of_ble_eq_true rfl) dX10_isNumber_21 ?_
    refine V_if_ne (tgt := 32) hX dX10_isNumber_24 (by decide) (fun h24 => ?_) (fun h24 => ?_)
    · rw [if_neg h24] at hr
      refine V_aload_n hX dX10_isNumber_32 rfl rfl ?_
      refine G_RX10_50 hX dX10_isNumber_33 ?_
      refine V_iload_n hX dX10_isNumber_36 rfl rfl ?_
      refine V_aload_n hX dX10_isNumber_37 rfl rfl ?_
      refine G_RX10_111 hX dX10_isNumber_38 ?_
      obtain ⟨hn41, hr⟩ := ifn hr
      refine V_iast hX (Nat.le_of_ble_eq_true rfl) lay_45 (inB_in hn41) dX10_isNumber_41 ?_
      refine V_iconst hX dX10_isNumber_42 ic_1 ?_
      cases hr
      exact V_iret hX hE rfl dX10_isNumber_43
    · rw [if_pos h24] at hr
      refine V_mask [true, false, false, false] ?_
      exact v_X10_isNumber_27 hd9 hX hE _ hr
def f_X10_isOneOf_23 (s1 : Int32) (s2 : Int32) (x2 : Int64) (x4 : Int64) (w : Wd) : Option (Int32 × Wd) := if inB s1 88 then (if (lg_cmp (wS w 45 (ix s1) s2).2 x2) = 0 then
      (some (1, (wS w 45 (ix s1) s2)))
    else
      (if (lg_cmp (wS w 45 (ix s1) s2).2 x4) = 0 then
        (some (1, (wS w 45 (ix s1) s2)))
      else
        (Option.bind (f_X10_fails (wS w 45 (ix s1) s2)) fun q1 =>
        if q1.1 = 0 then
          (some (0, q1.2))
        else
          (some (1, q1.2))))) else none
def f_X10_isOneOf (p0 : Int32) (p1 : Int64) (p2 : Int64) (w : Wd) : Option (Int32 × Wd) := Option.bind (f_X10_nextToken w) fun q1 =>
    if (lg_cmp q1.2 p1) = 0 then
      (f_X10_isOneOf_23 p0 0 p1 p2 q1)
    else
      (f_X10_isOneOf_23 p0 1 p1 p2 q1)
set_option maxRecDepth 100000 in
set_option maxHeartbeats 4000000 in
theorem v_X10_isOneOf_23 {d : Nat} (hd9 : 2 ≤ d) {X : bX} (hX : bOk cX10_isOneOf 6 RX10 d X) {r : (Int32 × Wd)} (hE : bEnd (some .boolean) (some (.int r.1)) r.2 X) : ∀ (s1 : Int32) (s2 : Int32) (x2 : Int64) (x4 : Int64) (w : Wd), f_X10_isOneOf_23 s1 s2 x2 x4 w = some r → bV X 23 [some (.ref 33), none, some (.long x2), none, some (.long x4), none] [.int s2, .int s1, .ref 45] w := by
  intro s1 s2 x2 x4 w hr
  obtain ⟨d, rfl⟩ : ∃ e, d = e + 1 := ⟨d - 1, by omega⟩
  unfold f_X10_isOneOf_23 at hr
  obtain ⟨hn23, hr⟩ := ifn hr
  refine V_iast hX (Nat.le_of_ble_eq_true rfl) lay_45 (inB_in hn23) dX10_isOneOf_23 ?_
  refine V_aload_n hX dX10_isOneOf_24 rfl rfl ?_
  refine G_RX10_116 hX dX10_isOneOf_25 ?_
  refine V_lload_n hX dX10_isOneOf_28 rfl rfl ?_
  refine V_lcmp hX dX10_isOneOf_29 ?_
  refine V_if_eq (tgt := 50) hX dX10_isOneOf_30 (by decide) (fun h30 => ?_) (fun h30 => ?_)
  · rw [if_pos h30] at hr
    refine V_iconst hX dX10_isOneOf_50 ic_1 ?_
    refine V_goto (tgt := 55) hX dX10_isOneOf_51 (by decide) ?_
    cases hr
    exact V_iret hX hE rfl dX10_isOneOf_55
  · rw [if_neg h30] at hr
    refine V_aload_n hX dX10_isOneOf_33 rfl rfl ?_
    refine G_RX10_116 hX dX10_isOneOf_34 ?_
    refine V_lload hX dX10_isOneOf_37 rfl ?_
    refine V_lcmp hX dX10_isOneOf_39 ?_
    refine V_if_eq (tgt := 50) hX dX10_isOneOf_40 (by decide) (fun h40 => ?_) (fun h40 => ?_)
    · rw [if_pos h40] at hr
      refine V_iconst hX dX10_isOneOf_50 ic_1 ?_
      refine V_goto (tgt := 55) hX dX10_isOneOf_51 (by decide) ?_
      cases hr
      exact V_iret hX hE rfl dX10_isOneOf_55
    · rw [if_neg h40] at hr
      refine V_aload_n hX dX10_isOneOf_43 rfl rfl ?_
      obtain ⟨q1, hq1, hr⟩ := bnd hr
      refine C_RX10_136 hX (c_X10_fails (by omega) hq1) (Nat.le_of_ble_eq_true rfl) dX10_isOneOf_44 ?_
      refine V_if_eq (tgt := 54) hX dX10_isOneOf_47 (by decide) (fun h47 => ?_) (fun h47 => ?_)
      · rw [if_pos h47] at hr
        refine V_iconst hX dX10_isOneOf_54 ic_0 ?_
        cases hr
        exact V_iret hX hE rfl dX10_isOneOf_55
      · rw [if_neg h47] at hr
        refine V_iconst hX dX10_isOneOf_50 ic_1 ?_
        refine V_goto (tgt := 55) hX dX10_isOneOf_51 (by decide) ?_
        cases hr
        exact V_iret hX hE rfl dX10_isOneOf_55
set_option maxRecDepth 100000 in
set_option maxHeartbeats 4000000 in
theorem c_X10_isOneOf {d : Nat} (hd9 : 2 ≤ d) {p0 : Int32} {p1 : Int64} {p2 : Int64} {w : Wd} {r : (Int32 × Wd)} (hr : f_X10_isOneOf p0 p1 p2 w = some r) : Con d yX10_isOneOf cX10_isOneOf 6 (some .boolean) [.ref 33, .int p0, .long p1, .long p2] w (some (.int r.1)) r.2 := by
  refine Con_of (by decide) (Nat.le_of_ble_eq_true rfl) (fun X hX hE => ?_)
  have hX : bOk cX10_isOneOf 6 RX10 d X := hX
  show bV X 0 [some (.ref 33), some (.int p0), some (.long p1), none, some (.long p2), none] [] w
  obtain ⟨d, rfl⟩ : ∃ e, d = e + 1 := ⟨d - 1, by omega⟩
  unfold f_X10_isOneOf at hr
  refine V_aload_n hX dX10_isOneOf_0 rfl rfl ?_
  obtain ⟨q1, hq1, hr⟩ := bnd hr
  refine C_RX10_133 hX (c_X10_nextToken (by omega) hq1) (Nat.le_of_ble_eq_true rfl) dX10_isOneOf_1 ?_
  refine V_aload_n hX dX10_isOneOf_4 rfl rfl ?_
  refine G_RX10_50 hX dX10_isOneOf_5 ?_
  refine V_iload_n hX dX10_isOneOf_8 rfl rfl ?_
  refine V_aload_n hX dX10_isOneOf_9 rfl rfl ?_
  refine G_RX10_116 hX dX10_isOneOf_10 ?_
  refine V_lload_n hX dX10_isOneOf_13 rfl rfl ?_
  refine V_lcmp hX dX10_isOneOf_14 ?_
  refine V_if_ne (tgt := 22) hX dX10_isOneOf_15 (by decide) (fun h15 => ?_) (fun h15 => ?_)
  · rw [if_neg h15] at hr
    refine V_iconst hX dX10_isOneOf_22 ic_1 ?_
    refine V_mask [true, false, true, false, true, false] ?_
    exact v_X10_isOneOf_23 hd9 hX hE _ _ _ _ _ hr
  · rw [if_pos h15] at hr
    refine V_iconst hX dX10_isOneOf_18 ic_0 ?_
    refine V_goto (tgt := 23) hX dX10_isOneOf_19 (by decide) ?_
    refine V_mask [true, false, true, false, true, false] ?_
    exact v_X10_isOneOf_23 hd9 hX hE _ _ _ _ _ hr
def f_X10_isBundleLine (p0 : Int32) (w : Wd) : Option (Int32 × Wd) := Option.bind (f_X10_isNumber (p0 + 1) 0 7 w) fun q1 =>
    if q1.1 = 0 then
      (some (0, q1.2))
    else
      (Option.bind (f_X10_isNumber (p0 + 2) 0 999 q1.2) fun q2 =>
      if q2.1 = 0 then
        (some (0, q2.2))
      else
        (Option.bind (f_X10_isNumber (p0 + 3) 0 999 q2.2) fun q3 =>
        if q3.1 = 0 then
          (some (0, q3.2))
        else
          (Option.bind (f_X10_isOneOf (p0 + 4) 99677 7749089 q3.2) fun q4 =>
          if q4.1 = 0 then
            (some (0, q4.2))
          else
            (Option.bind (f_X10_isNumber (p0 + 5) 1 30 q4.2) fun q5 =>
            if q5.1 = 0 then
              (some (0, q5.2))
            else
              (Option.bind (f_X10_isNumber (p0 + 6) 1 20 q5.2) fun q6 =>
              if q6.1 = 0 then
                (some (0, q6.2))
              else
                (Option.bind (f_X10_isNumber (p0 + 7) 1 500 q6.2) fun q7 =>
                if q7.1 = 0 then
                  (some (0, q7.2))
                else
                  (Option.bind (f_X10_isNumber (p0 + 8) 0 40 q7.2) fun q8 =>
                  if q8.1 = 0 then
                    (some (0, q8.2))
                  else
                    (Option.bind (f_X10_isOneOf (p0 + 9) 240023 9748424 q8.2) fun q9 =>
                    if q9.1 = 0 then
                      (some (0, q9.2))
                    else
                      (Option.bind (f_X10_isNumber (p0 + 10) 0 60 q9.2) fun q10 =>
                      if q10.1 = 0 then
                        (some (0, q10.2))
                      else
                        (some (1, q10.2)))))))))))
set_option maxRecDepth 100000 in
set_option maxHeartbeats 4000000 in
theorem c_X10_isBundleLine {d : Nat} (hd9 : 3 ≤ d) {p0 : Int32} {w : Wd} {r : (Int32 × Wd)} (hr : f_X10_isBundleLine p0 w = some r) : Con d yX10_isBundleLine cX10_isBundleLine 2 (some .boolean) [.ref 33, .int p0] w (some (.int r.1)) r.2 := by
  refine Con_of (by decide) (Nat.le_of_ble_eq_true rfl) (fun X hX hE => ?_)
  have hX : bOk cX10_isBundleLine 2 RX10 d X := hX
  show bV X 0 [some (.ref 33), some (.int p0)] [] w
  obtain ⟨d, rfl⟩ : ∃ e, d = e + 1 := ⟨d - 1, by omega⟩
  unfold f_X10_isBundleLine at hr
  refine V_aload_n hX dX10_isBundleLine_0 rfl rfl ?_
  refine V_iload_n hX dX10_isBundleLine_1 rfl rfl ?_
  refine V_iconst hX dX10_isBundleLine_2 ic_1 ?_
  refine V_iadd hX dX10_isBundleLine_3 ?_
  refine V_iconst hX dX10_isBundleLine_4 ic_0 ?_
  refine V_bipush hX dX10_isBundleLine_5 bp_7 ?_
  obtain ⟨q1, hq1, hr⟩ := bnd hr
  refine C_RX10_140 hX (c_X10_isNumber (by omega) hq1) (Nat.le_of_ble_eq_true rfl) dX10_isBundleLine_7 ?_
  refine V_if_eq (tgt := 148) hX dX10_isBundleLine_10 (by decide) (fun h10 => ?_) (fun h10 => ?_)
  · rw [if_pos h10] at hr
    refine V_iconst hX dX10_isBundleLine_148 ic_0 ?_
    cases hr
    exact V_iret hX hE rfl dX10_isBundleLine_149
  · rw [if_neg h10] at hr
    refine V_aload_n hX dX10_isBundleLine_13 rfl rfl ?_
    refine V_iload_n hX dX10_isBundleLine_14 rfl rfl ?_
    refine V_iconst hX dX10_isBundleLine_15 ic_2 ?_
    refine V_iadd hX dX10_isBundleLine_16 ?_
    refine V_iconst hX dX10_isBundleLine_17 ic_0 ?_
    refine V_sipush hX dX10_isBundleLine_18 sp_999 ?_
    obtain ⟨q2, hq2, hr⟩ := bnd hr
    refine C_RX10_140 hX (c_X10_isNumber (by omega) hq2) (Nat.le_of_ble_eq_true rfl) dX10_isBundleLine_21 ?_
    refine V_if_eq (tgt := 148) hX dX10_isBundleLine_24 (by decide) (fun h24 => ?_) (fun h24 => ?_)
    · rw [if_pos h24] at hr
      refine V_iconst hX dX10_isBundleLine_148 ic_0 ?_
      cases hr
      exact V_iret hX hE rfl dX10_isBundleLine_149
    · rw [if_neg h24] at hr
      refine V_aload_n hX dX10_isBundleLine_27 rfl rfl ?_
      refine V_iload_n hX dX10_isBundleLine_28 rfl rfl ?_
      refine V_iconst hX dX10_isBundleLine_29 ic_3 ?_
      refine V_iadd hX dX10_isBundleLine_30 ?_
      refine V_iconst hX dX10_isBundleLine_31 ic_0 ?_
      refine V_sipush hX dX10_isBundleLine_32 sp_999 ?_
      obtain ⟨q3, hq3, hr⟩ := bnd hr
      refine C_RX10_140 hX (c_X10_isNumber (by omega) hq3) (Nat.le_of_ble_eq_true rfl) dX10_isBundleLine_35 ?_
      refine V_if_eq (tgt := 148) hX dX10_isBundleLine_38 (by decide) (fun h38 => ?_) (fun h38 => ?_)
      · rw [if_pos h38] at hr
        refine V_iconst hX dX10_isBundleLine_148 ic_0 ?_
        cases hr
        exact V_iret hX hE rfl dX10_isBundleLine_149
      · rw [if_neg h38] at hr
        refine V_aload_n hX dX10_isBundleLine_41 rfl rfl ?_
        refine V_iload_n hX dX10_isBundleLine_42 rfl rfl ?_
        refine V_iconst hX dX10_isBundleLine_43 ic_4 ?_
        refine V_iadd hX dX10_isBundleLine_44 ?_
        refine V_ldc2 (v := 99677) hX lc_RX10_143 dX10_isBundleLine_45 ?_
        refine V_ldc2 (v := 7749089) hX lc_RX10_145 dX10_isBundleLine_48 ?_
        obtain ⟨q4, hq4, hr⟩ := bnd hr
        refine C_RX10_147 hX (c_X10_isOneOf (by omega) hq4) (Nat.le_of_ble_eq_true rfl) dX10_isBundleLine_51 ?_
        refine V_if_eq (tgt := 148) hX dX10_isBundleLine_54 (by decide) (fun h54 => ?_) (fun h54 => ?_)
        · rw [if_pos h54] at hr
          refine V_iconst hX dX10_isBundleLine_148 ic_0 ?_
          cases hr
          exact V_iret hX hE rfl dX10_isBundleLine_149
        · rw [if_neg h54] at hr
          refine V_aload_n hX dX10_isBundleLine_57 rfl rfl ?_
          refine V_iload_n hX dX10_isBundleLine_58 rfl rfl ?_
          refine V_iconst hX dX10_isBundleLine_59 ic_5 ?_
          refine V_iadd hX dX10_isBundleLine_60 ?_
          refine V_iconst hX dX10_isBundleLine_61 ic_1 ?_
          refine V_bipush hX dX10_isBundleLine_62 bp_30 ?_
          obtain ⟨q5, hq5, hr⟩ := bnd hr
          refine C_RX10_140 hX (c_X10_isNumber (by omega) hq5) (Nat.le_of_ble_eq_true rfl) dX10_isBundleLine_64 ?_
          refine V_if_eq (tgt := 148) hX dX10_isBundleLine_67 (by decide) (fun h67 => ?_) (fun h67 => ?_)
          · rw [if_pos h67] at hr
            refine V_iconst hX dX10_isBundleLine_148 ic_0 ?_
            cases hr
            exact V_iret hX hE rfl dX10_isBundleLine_149
          · rw [if_neg h67] at hr
            refine V_aload_n hX dX10_isBundleLine_70 rfl rfl ?_
            refine V_iload_n hX dX10_isBundleLine_71 rfl rfl ?_
            refine V_bipush hX dX10_isBundleLine_72 bp_6 ?_
            refine V_iadd hX dX10_isBundleLine_74 ?_
            refine V_iconst hX dX10_isBundleLine_75 ic_1 ?_
            refine V_bipush hX dX10_isBundleLine_76 bp_20 ?_
            obtain ⟨q6, hq6, hr⟩ := bnd hr
            refine C_RX10_140 hX (c_X10_isNumber (by omega) hq6) (Nat.le_of_ble_eq_true rfl) dX10_isBundleLine_78 ?_
            refine V_if_eq (tgt := 148) hX dX10_isBundleLine_81 (by decide) (fun h81 => ?_) (fun h81 => ?_)
            · rw [if_pos h81] at hr
              refine V_iconst hX dX10_isBundleLine_148 ic_0 ?_
              cases hr
              exact V_iret hX hE rfl dX10_isBundleLine_149
            · rw [if_neg h81] at hr
              refine V_aload_n hX dX10_isBundleLine_84 rfl rfl ?_
              refine V_iload_n hX dX10_isBundleLine_85 rfl rfl ?_
              refine V_bipush hX dX10_isBundleLine_86 bp_7 ?_
              refine V_iadd hX dX10_isBundleLine_88 ?_
              refine V_iconst hX dX10_isBundleLine_89 ic_1 ?_
              refine V_sipush hX dX10_isBundleLine_90 sp_500 ?_
              obtain ⟨q7, hq7, hr⟩ := bnd hr
              refine C_RX10_140 hX (c_X10_isNumber (by omega) hq7) (Nat.le_of_ble_eq_true rfl) dX10_isBundleLine_93 ?_
              refine V_if_eq (tgt := 148) hX dX10_isBundleLine_96 (by decide) (fun h96 => ?_) (fun h96 => ?_)
              · rw [if_pos h96] at hr
                refine V_iconst hX dX10_isBundleLine_148 ic_0 ?_
                cases hr
                exact V_iret hX hE rfl dX10_isBundleLine_149
              · rw [if_neg h96] at hr
                refine V_aload_n hX dX10_isBundleLine_99 rfl rfl ?_
                refine V_iload_n hX dX10_isBundleLine_100 rfl rfl ?_
                refine V_bipush hX dX10_isBundleLine_101 bp_8 ?_
                refine V_iadd hX dX10_isBundleLine_103 ?_
                refine V_iconst hX dX10_isBundleLine_104 ic_0 ?_
                refine V_bipush hX dX10_isBundleLine_105 bp_40 ?_
                obtain ⟨q8, hq8, hr⟩ := bnd hr
                refine C_RX10_140 hX (c_X10_isNumber (by omega) hq8) (Nat.le_of_ble_eq_true rfl) dX10_isBundleLine_107 ?_
                refine V_if_eq (tgt := 148) hX dX10_isBundleLine_110 (by decide) (fun h110 => ?_) (fun h110 => ?_)
                · rw [if_pos h110] at hr
                  refine V_iconst hX dX10_isBundleLine_148 ic_0 ?_
                  cases hr
                  exact V_iret hX hE rfl dX10_isBundleLine_149
                · rw [if_neg h110] at hr
                  refine V_aload_n hX dX10_isBundleLine_113 rfl rfl ?_
                  refine V_iload_n hX dX10_isBundleLine_114 rfl rfl ?_
                  refine V_bipush hX dX10_isBundleLine_115 bp_9 ?_
                  refine V_iadd hX dX10_isBundleLine_117 ?_
                  refine V_ldc2 (v := 240023) hX lc_RX10_151 dX10_isBundleLine_118 ?_
                  refine V_ldc2 (v := 9748424) hX lc_RX10_153 dX10_isBundleLine_121 ?_
                  obtain ⟨q9, hq9, hr⟩ := bnd hr
                  refine C_RX10_147 hX (c_X10_isOneOf (by omega) hq9) (Nat.le_of_ble_eq_true rfl) dX10_isBundleLine_124 ?_
                  refine V_if_eq (tgt := 148) hX dX10_isBundleLine_127 (by decide) (fun h127 => ?_) (fun h127 => ?_)
                  · rw [if_pos h127] at hr
                    refine V_iconst hX dX10_isBundleLine_148 ic_0 ?_
                    cases hr
                    exact V_iret hX hE rfl dX10_isBundleLine_149
                  · rw [if_neg h127] at hr
                    refine V_aload_n hX dX10_isBundleLine_130 rfl rfl ?_
                    refine V_iload_n hX dX10_isBundleLine_131 rfl rfl ?_
                    refine V_bipush hX dX10_isBundleLine_132 bp_10 ?_
                    refine V_iadd hX dX10_isBundleLine_134 ?_
                    refine V_iconst hX dX10_isBundleLine_135 ic_0 ?_
                    refine V_bipush hX dX10_isBundleLine_136 bp_60 ?_
                    obtain ⟨q10, hq10, hr⟩ := bnd hr
                    refine C_RX10_140 hX (c_X10_isNumber (by omega) hq10) (Nat.le_of_ble_eq_true rfl) dX10_isBundleLine_138 ?_
                    refine V_if_eq (tgt := 148) hX dX10_isBundleLine_141 (by decide) (fun h141 => ?_) (fun h141 => ?_)
                    · rw [if_pos h141] at hr
                      refine V_iconst hX dX10_isBundleLine_148 ic_0 ?_
                      cases hr
                      exact V_iret hX hE rfl dX10_isBundleLine_149
                    · rw [if_neg h141] at hr
                      refine V_iconst hX dX10_isBundleLine_144 ic_1 ?_
                      refine V_goto (tgt := 149) hX dX10_isBundleLine_145 (by decide) ?_
                      cases hr
                      exact V_iret hX hE rfl dX10_isBundleLine_149
def f_X10_isOverLine (p0 : Int32) (w : Wd) : Option (Int32 × Wd) := Option.bind (f_X10_isNumber (p0 + 1) 0 13 w) fun q1 =>
    if q1.1 = 0 then
      (some (0, q1.2))
    else
      (Option.bind (f_X10_isNumber (p0 + 2) 0 13 q1.2) fun q2 =>
      if q2.1 = 0 then
        (some (0, q2.2))
      else
        (if inB (p0 + 1) 88 then (if inB (p0 + 2) 88 then (if (q2.2.1 45 (ix (p0 + 1))) = (q2.2.1 45 (ix (p0 + 2))) then
          (Option.bind (f_X10_fails q2.2) fun q3 =>
          if q3.1 = 0 then
            (some (0, q3.2))
          else
            (some (1, q3.2)))
        else
          (some (1, q2.2))) else none) else none))
set_option maxRecDepth 100000 in
set_option maxHeartbeats 4000000 in
theorem c_X10_isOverLine {d : Nat} (hd9 : 3 ≤ d) {p0 : Int32} {w : Wd} {r : (Int32 × Wd)} (hr : f_X10_isOverLine p0 w = some r) : Con d yX10_isOverLine cX10_isOverLine 2 (some .boolean) [.ref 33, .int p0] w (some (.int r.1)) r.2 := by
  refine Con_of (by decide) (Nat.le_of_ble_eq_true rfl) (fun X hX hE => ?_)
  have hX : bOk cX10_isOverLine 2 RX10 d X := hX
  show bV X 0 [some (.ref 33), some (.int p0)] [] w
  obtain ⟨d, rfl⟩ : ∃ e, d = e + 1 := ⟨d - 1, by omega⟩
  unfold f_X10_isOverLine at hr
  refine V_aload_n hX dX10_isOverLine_0 rfl rfl ?_
  refine V_iload_n hX dX10_isOverLine_1 rfl rfl ?_
  refine V_iconst hX dX10_isOverLine_2 ic_1 ?_
  refine V_iadd hX dX10_isOverLine_3 ?_
  refine V_iconst hX dX10_isOverLine_4 ic_0 ?_
  refine V_bipush hX dX10_isOverLine_5 bp_13 ?_
  obtain ⟨q1, hq1, hr⟩ := bnd hr
  refine C_RX10_140 hX (c_X10_isNumber (by omega) hq1) (Nat.le_of_ble_eq_true rfl) dX10_isOverLine_7 ?_
  refine V_if_eq (tgt := 26) hX dX10_isOverLine_10 (by decide) (fun h10 => ?_) (fun h10 => ?_)
  · rw [if_pos h10] at hr
    refine V_iconst hX dX10_isOverLine_26 ic_0 ?_
    cases hr
    exact V_iret hX hE rfl dX10_isOverLine_27
  · rw [if_neg h10] at hr
    refine V_aload_n hX dX10_isOverLine_13 rfl rfl ?_
    refine V_iload_n hX dX10_isOverLine_14 rfl rfl ?_
    refine V_iconst hX dX10_isOverLine_15 ic_2 ?_
    refine V_iadd hX dX10_isOverLine_16 ?_
    refine V_iconst hX dX10_isOverLine_17 ic_0 ?_
    refine V_bipush hX dX10_isOverLine_18 bp_13 ?_
    obtain ⟨q2, hq2, hr⟩ := bnd hr
    refine C_RX10_140 hX (c_X10_isNumber (by omega) hq2) (Nat.le_of_ble_eq_true rfl) dX10_isOverLine_20 ?_
    refine V_if_ne (tgt := 28) hX dX10_isOverLine_23 (by decide) (fun h23 => ?_) (fun h23 => ?_)
    · rw [if_neg h23] at hr
      refine V_aload_n hX dX10_isOverLine_28 rfl rfl ?_
      refine G_RX10_50 hX dX10_isOverLine_29 ?_
      refine V_iload_n hX dX10_isOverLine_32 rfl rfl ?_
      refine V_iconst hX dX10_isOverLine_33 ic_1 ?_
      refine V_iadd hX dX10_isOverLine_34 ?_
      obtain ⟨hn35, hr⟩ := ifn hr
      refine V_iald hX (Nat.le_of_ble_eq_true rfl) lay_45 (inB_in hn35) dX10_isOverLine_35 ?_
      refine V_aload_n hX dX10_isOverLine_36 rfl rfl ?_
      refine G_RX10_50 hX dX10_isOverLine_37 ?_
      refine V_iload_n hX dX10_isOverLine_40 rfl rfl ?_
      refine V_iconst hX dX10_isOverLine_41 ic_2 ?_
      refine V_iadd hX dX10_isOverLine_42 ?_
      obtain ⟨hn43, hr⟩ := ifn hr
      refine V_iald hX (Nat.le_of_ble_eq_true rfl) lay_45 (inB_in hn43) dX10_isOverLine_43 ?_
      refine V_icmp_ne (tgt := 54) hX dX10_isOverLine_44 (by decide) (fun h44 => ?_) (fun h44 => ?_)
      · rw [if_neg h44] at hr
        refine V_iconst hX dX10_isOverLine_54 ic_1 ?_
        refine V_goto (tgt := 59) hX dX10_isOverLine_55 (by decide) ?_
        cases hr
        exact V_iret hX hE rfl dX10_isOverLine_59
      · rw [if_pos h44] at hr
        refine V_aload_n hX dX10_isOverLine_47 rfl rfl ?_
        obtain ⟨q3, hq3, hr⟩ := bnd hr
        refine C_RX10_136 hX (c_X10_fails (by omega) hq3) (Nat.le_of_ble_eq_true rfl) dX10_isOverLine_48 ?_
        refine V_if_eq (tgt := 58) hX dX10_isOverLine_51 (by decide) (fun h51 => ?_) (fun h51 => ?_)
        · rw [if_pos h51] at hr
          refine V_iconst hX dX10_isOverLine_58 ic_0 ?_
          cases hr
          exact V_iret hX hE rfl dX10_isOverLine_59
        · rw [if_neg h51] at hr
          refine V_iconst hX dX10_isOverLine_54 ic_1 ?_
          refine V_goto (tgt := 59) hX dX10_isOverLine_55 (by decide) ?_
          cases hr
          exact V_iret hX hE rfl dX10_isOverLine_59
    · rw [if_pos h23] at hr
      refine V_iconst hX dX10_isOverLine_26 ic_0 ?_
      cases hr
      exact V_iret hX hE rfl dX10_isOverLine_27
def f_X10_isLine_393 (x1 : Int32) (w : Wd) : Option (Int32 × Wd) := Option.bind (f_X10_isNumber (x1 + 1) 0 99 w) fun q1 =>
    if bo q1.1 then some (q1.1, q1.2) else none
def f_X10_isLine_116 (s1 : Int32) (s2 : Int32) (x1 : Int32) (w : Wd) : Option (Int32 × Wd) := if inB s1 88 then (if inB x1 88 then (if ((wS w 45 (ix s1) s2).1 45 (ix x1)) = 0 then
      (Option.bind (f_X10_isBundleLine x1 (wS w 45 (ix s1) s2)) fun q1 =>
      if bo q1.1 then some (q1.1, q1.2) else none)
    else if ((wS w 45 (ix s1) s2).1 45 (ix x1)) = 1 then
      (Option.bind (f_X10_isNumber (x1 + 1) 8 13 (wS w 45 (ix s1) s2)) fun q1 =>
      if q1.1 = 0 then
        (some (0, q1.2))
      else
        (Option.bind (f_X10_isNumber (x1 + 2) 0 999 q1.2) fun q2 =>
        if q2.1 = 0 then
          (some (0, q2.2))
        else
          (Option.bind (f_X10_isNumber (x1 + 3) 0 999 q2.2) fun q3 =>
          if q3.1 = 0 then
            (some (0, q3.2))
          else
            (Option.bind (f_X10_isNumber (x1 + 4) 1 999 q3.2) fun q4 =>
            if q4.1 = 0 then
              (some (0, q4.2))
            else
              (Option.bind (f_X10_isNumber (x1 + 5) 1 999 q4.2) fun q5 =>
              if q5.1 = 0 then
                (some (0, q5.2))
              else
                (some (1, q5.2)))))))
    else if ((wS w 45 (ix s1) s2).1 45 (ix x1)) = 2 then
      (Option.bind (f_X10_isNumber (x1 + 1) 0 13 (wS w 45 (ix s1) s2)) fun q1 =>
      if q1.1 = 0 then
        (some (0, q1.2))
      else
        (Option.bind (f_X10_isNumber (x1 + 2) 0 2000 q1.2) fun q2 =>
        if q2.1 = 0 then
          (some (0, q2.2))
        else
          (if inB (x1 + 2) 88 then (Option.bind (f_X10_isNumber (x1 + 3) (q2.2.1 45 (ix (x1 + 2))) 2000 q2.2) fun q3 =>
          if q3.1 = 0 then
            (some (0, q3.2))
          else
            (some (1, q3.2))) else none)))
    else if ((wS w 45 (ix s1) s2).1 45 (ix x1)) = 3 then
      (Option.bind (f_X10_isOverLine x1 (wS w 45 (ix s1) s2)) fun q1 =>
      if bo q1.1 then some (q1.1, q1.2) else none)
    else if ((wS w 45 (ix s1) s2).1 45 (ix x1)) = 4 then
      (Option.bind (f_X10_isNumber (x1 + 1) 1 12 (wS w 45 (ix s1) s2)) fun q1 =>
      if q1.1 = 0 then
        (some (0, q1.2))
      else
        (Option.bind (f_X10_isNumber (x1 + 2) 0 40 q1.2) fun q2 =>
        if q2.1 = 0 then
          (some (0, q2.2))
        else
          (if inB (x1 + 2) 88 then (Option.bind (f_X10_isNumber (x1 + 3) (q2.2.1 45 (ix (x1 + 2))) 40 q2.2) fun q3 =>
          if q3.1 = 0 then
            (some (0, q3.2))
          else
            (Option.bind (f_X10_isNumber (x1 + 4) 0 2000 q3.2) fun q4 =>
            if q4.1 = 0 then
              (some (0, q4.2))
            else
              (if inB (x1 + 4) 88 then (Option.bind (f_X10_isNumber (x1 + 5) (q4.2.1 45 (ix (x1 + 4))) 2000 q4.2) fun q5 =>
              if q5.1 = 0 then
                (some (0, q5.2))
              else
                (some (1, q5.2))) else none))) else none)))
    else if ((wS w 45 (ix s1) s2).1 45 (ix x1)) = 5 then
      (f_X10_isLine_393 x1 (wS w 45 (ix s1) s2))
    else if ((wS w 45 (ix s1) s2).1 45 (ix x1)) = 6 then
      (f_X10_isLine_393 x1 (wS w 45 (ix s1) s2))
    else (Option.bind (f_X10_fails (wS w 45 (ix s1) s2)) fun q1 =>
    if bo q1.1 then some (q1.1, q1.2) else none)) else none) else none
def f_X10_isLine (p0 : Int32) (w : Wd) : Option (Int32 × Wd) := Option.bind (f_X10_nextToken w) fun q1 =>
    if (lg_cmp q1.2 40136882) = 0 then
      (f_X10_isLine_116 p0 0 p0 q1)
    else
      (if (lg_cmp q1.2 257105) = 0 then
        (f_X10_isLine_116 p0 1 p0 q1)
      else
        (if (lg_cmp q1.2 495765) = 0 then
          (f_X10_isLine_116 p0 2 p0 q1)
        else
          (if (lg_cmp q1.2 311436) = 0 then
            (f_X10_isLine_116 p0 3 p0 q1)
          else
            (if (lg_cmp q1.2 397345) = 0 then
              (f_X10_isLine_116 p0 4 p0 q1)
            else
              (if (lg_cmp q1.2 10334396) = 0 then
                (f_X10_isLine_116 p0 5 p0 q1)
              else
                (if (lg_cmp q1.2 5146) = 0 then
                  (f_X10_isLine_116 p0 6 p0 q1)
                else
                  (f_X10_isLine_116 p0 (-1) p0 q1)))))))
set_option maxRecDepth 100000 in
set_option maxHeartbeats 4000000 in
theorem v_X10_isLine_393 {d : Nat} (hd9 : 4 ≤ d) {X : bX} (hX : bOk cX10_isLine 2 RX10 d X) {r : (Int32 × Wd)} (hE : bEnd (some .boolean) (some (.int r.1)) r.2 X) : ∀ (x1 : Int32) (w : Wd), f_X10_isLine_393 x1 w = some r → bV X 393 [some (.ref 33), some (.int x1)] [] w := by
  intro x1 w hr
  obtain ⟨d, rfl⟩ : ∃ e, d = e + 1 := ⟨d - 1, by omega⟩
  unfold f_X10_isLine_393 at hr
  refine V_aload_n hX dX10_isLine_393 rfl rfl ?_
  refine V_iload_n hX dX10_isLine_394 rfl rfl ?_
  refine V_iconst hX dX10_isLine_395 ic_1 ?_
  refine V_iadd hX dX10_isLine_396 ?_
  refine V_iconst hX dX10_isLine_397 ic_0 ?_
  refine V_bipush hX dX10_isLine_398 bp_99 ?_
  obtain ⟨q1, hq1, hr⟩ := bnd hr
  refine C_RX10_140 hX (c_X10_isNumber (by omega) hq1) (Nat.le_of_ble_eq_true rfl) dX10_isLine_400 ?_
  obtain ⟨hbo, hr⟩ := ifn hr
  cases hr
  exact V_iret hX hE (bo_nar hbo) dX10_isLine_403
set_option maxRecDepth 100000 in
set_option maxHeartbeats 4000000 in
theorem v_X10_isLine_116 {d : Nat} (hd9 : 4 ≤ d) {X : bX} (hX : bOk cX10_isLine 2 RX10 d X) {r : (Int32 × Wd)} (hE : bEnd (some .boolean) (some (.int r.1)) r.2 X) : ∀ (s1 : Int32) (s2 : Int32) (x1 : Int32) (w : Wd), f_X10_isLine_116 s1 s2 x1 w = some r → bV X 116 [some (.ref 33), some (.int x1)] [.int s2, .int s1, .ref 45] w := by
  intro s1 s2 x1 w hr
  obtain ⟨d, rfl⟩ : ∃ e, d = e + 1 := ⟨d - 1, by omega⟩
  unfold f_X10_isLine_116 at hr
  obtain ⟨hn116, hr⟩ := ifn hr
  refine V_iast hX (Nat.le_of_ble_eq_true rfl) lay_45 (inB_in hn116) dX10_isLine_116 ?_
  refine V_aload_n hX dX10_isLine_117 rfl rfl ?_
  refine G_RX10_50 hX dX10_isLine_118 ?_
  refine V_iload_n hX dX10_isLine_121 rfl rfl ?_
  obtain ⟨hn122, hr⟩ := ifn hr
  refine V_iald hX (Nat.le_of_ble_eq_true rfl) lay_45 (inB_in hn122) dX10_isLine_122 ?_
  by_cases hs0 : ((wS w 45 (ix s1) s2).1 45 (ix x1)) = 0
  · rw [if_pos hs0] at hr
    refine V_tableIn (tgt := 164) hX dX10_isLine_123 (by rw [hs0]; decide) (by rw [hs0]; decide) (by rw [hs0]; rfl) (by decide) ?_
    refine V_aload_n hX dX10_isLine_164 rfl rfl ?_
    refine V_iload_n hX dX10_isLine_165 rfl rfl ?_
    obtain ⟨q1, hq1, hr⟩ := bnd hr
    refine C_RX10_169 hX (c_X10_isBundleLine (by omega) hq1) (Nat.le_of_ble_eq_true rfl) dX10_isLine_166 ?_
    obtain ⟨hbo, hr⟩ := ifn hr
    cases hr
    exact V_iret hX hE (bo_nar hbo) dX10_isLine_169
  rw [if_neg hs0] at hr
  by_cases hs1 : ((wS w 45 (ix s1) s2).1 45 (ix x1)) = 1
  · rw [if_pos hs1] at hr
    refine V_tableIn (tgt := 170) hX dX10_isLine_123 (by rw [hs1]; decide) (by rw [hs1]; decide) (by rw [hs1]; rfl) (by decide) ?_
    refine V_aload_n hX dX10_isLine_170 rfl rfl ?_
    refine V_iload_n hX dX10_isLine_171 rfl rfl ?_
    refine V_iconst hX dX10_isLine_172 ic_1 ?_
    refine V_iadd hX dX10_isLine_173 ?_
    refine V_bipush hX dX10_isLine_174 bp_8 ?_
    refine V_bipush hX dX10_isLine_176 bp_13 ?_
    obtain ⟨q1, hq1, hr⟩ := bnd hr
    refine C_RX10_140 hX (c_X10_isNumber (by omega) hq1) (Nat.le_of_ble_eq_true rfl) dX10_isLine_178 ?_
    refine V_if_eq (tgt := 244) hX dX10_isLine_181 (by decide) (fun h181 => ?_) (fun h181 => ?_)
    · rw [if_pos h181] at hr
      refine V_iconst hX dX10_isLine_244 ic_0 ?_
      cases hr
      exact V_iret hX hE rfl dX10_isLine_245
    · rw [if_neg h181] at hr
      refine V_aload_n hX dX10_isLine_184 rfl rfl ?_
      refine V_iload_n hX dX10_isLine_185 rfl rfl ?_
      refine V_iconst hX dX10_isLine_186 ic_2 ?_
      refine V_iadd hX dX10_isLine_187 ?_
      refine V_iconst hX dX10_isLine_188 ic_0 ?_
      refine V_sipush hX dX10_isLine_189 sp_999 ?_
      obtain ⟨q2, hq2, hr⟩ := bnd hr
      refine C_RX10_140 hX (c_X10_isNumber (by omega) hq2) (Nat.le_of_ble_eq_true rfl) dX10_isLine_192 ?_
      refine V_if_eq (tgt := 244) hX dX10_isLine_195 (by decide) (fun h195 => ?_) (fun h195 => ?_)
      · rw [if_pos h195] at hr
        refine V_iconst hX dX10_isLine_244 ic_0 ?_
        cases hr
        exact V_iret hX hE rfl dX10_isLine_245
      · rw [if_neg h195] at hr
        refine V_aload_n hX dX10_isLine_198 rfl rfl ?_
        refine V_iload_n hX dX10_isLine_199 rfl rfl ?_
        refine V_iconst hX dX10_isLine_200 ic_3 ?_
        refine V_iadd hX dX10_isLine_201 ?_
        refine V_iconst hX dX10_isLine_202 ic_0 ?_
        refine V_sipush hX dX10_isLine_203 sp_999 ?_
        obtain ⟨q3, hq3, hr⟩ := bnd hr
        refine C_RX10_140 hX (c_X10_isNumber (by omega) hq3) (Nat.le_of_ble_eq_true rfl) dX10_isLine_206 ?_
        refine V_if_eq (tgt := 244) hX dX10_isLine_209 (by decide) (fun h209 => ?_) (fun h209 => ?_)
        · rw [if_pos h209] at hr
          refine V_iconst hX dX10_isLine_244 ic_0 ?_
          cases hr
          exact V_iret hX hE rfl dX10_isLine_245
        · rw [if_neg h209] at hr
          refine V_aload_n hX dX10_isLine_212 rfl rfl ?_
          refine V_iload_n hX dX10_isLine_213 rfl rfl ?_
          refine V_iconst hX dX10_isLine_214 ic_4 ?_
          refine V_iadd hX dX10_isLine_215 ?_
          refine V_iconst hX dX10_isLine_216 ic_1 ?_
          refine V_sipush hX dX10_isLine_217 sp_999 ?_
          obtain ⟨q4, hq4, hr⟩ := bnd hr
          refine C_RX10_140 hX (c_X10_isNumber (by omega) hq4) (Nat.le_of_ble_eq_true rfl) dX10_isLine_220 ?_
          refine V_if_eq (tgt := 244) hX dX10_isLine_223 (by decide) (fun h223 => ?_) (fun h223 => ?_)
          · rw [if_pos h223] at hr
            refine V_iconst hX dX10_isLine_244 ic_0 ?_
            cases hr
            exact V_iret hX hE rfl dX10_isLine_245
          · rw [if_neg h223] at hr
            refine V_aload_n hX dX10_isLine_226 rfl rfl ?_
            refine V_iload_n hX dX10_isLine_227 rfl rfl ?_
            refine V_iconst hX dX10_isLine_228 ic_5 ?_
            refine V_iadd hX dX10_isLine_229 ?_
            refine V_iconst hX dX10_isLine_230 ic_1 ?_
            refine V_sipush hX dX10_isLine_231 sp_999 ?_
            obtain ⟨q5, hq5, hr⟩ := bnd hr
            refine C_RX10_140 hX (c_X10_isNumber (by omega) hq5) (Nat.le_of_ble_eq_true rfl) dX10_isLine_234 ?_
            refine V_if_eq (tgt := 244) hX dX10_isLine_237 (by decide) (fun h237 => ?_) (fun h237 => ?_)
            · rw [if_pos h237] at hr
              refine V_iconst hX dX10_isLine_244 ic_0 ?_
              cases hr
              exact V_iret hX hE rfl dX10_isLine_245
            · rw [if_neg h237] at hr
              refine V_iconst hX dX10_isLine_240 ic_1 ?_
              refine V_goto (tgt := 245) hX dX10_isLine_241 (by decide) ?_
              cases hr
              exact V_iret hX hE rfl dX10_isLine_245
  rw [if_neg hs1] at hr
  by_cases hs2 : ((wS w 45 (ix s1) s2).1 45 (ix x1)) = 2
  · rw [if_pos hs2] at hr
    refine V_tableIn (tgt := 246) hX dX10_isLine_123 (by rw [hs2]; decide) (by rw [hs2]; decide) (by rw [hs2]; rfl) (by decide) ?_
    refine V_aload_n hX dX10_isLine_246 rfl rfl ?_
    refine V_iload_n hX dX10_isLine_247 rfl rfl ?_
    refine V_iconst hX dX10_isLine_248 ic_1 ?_
    refine V_iadd hX dX10_isLine_249 ?_
    refine V_iconst hX dX10_isLine_250 ic_0 ?_
    refine V_bipush hX dX10_isLine_251 bp_13 ?_
    obtain ⟨q1, hq1, hr⟩ := bnd hr
    refine C_RX10_140 hX (c_X10_isNumber (by omega) hq1) (Nat.le_of_ble_eq_true rfl) dX10_isLine_253 ?_
    refine V_if_eq (tgt := 298) hX dX10_isLine_256 (by decide) (fun h256 => ?_) (fun h256 => ?_)
    · rw [if_pos h256] at hr
      refine V_iconst hX dX10_isLine_298 ic_0 ?_
      cases hr
      exact V_iret hX hE rfl dX10_isLine_299
    · rw [if_neg h256] at hr
      refine V_aload_n hX dX10_isLine_259 rfl rfl ?_
      refine V_iload_n hX dX10_isLine_260 rfl rfl ?_
      refine V_iconst hX dX10_isLine_261 ic_2 ?_
      refine V_iadd hX dX10_isLine_262 ?_
      refine V_iconst hX dX10_isLine_263 ic_0 ?_
      refine V_sipush hX dX10_isLine_264 sp_2000 ?_
      obtain ⟨q2, hq2, hr⟩ := bnd hr
      refine C_RX10_140 hX (c_X10_isNumber (by omega) hq2) (Nat.le_of_ble_eq_true rfl) dX10_isLine_267 ?_
      refine V_if_eq (tgt := 298) hX dX10_isLine_270 (by decide) (fun h270 => ?_) (fun h270 => ?_)
      · rw [if_pos h270] at hr
        refine V_iconst hX dX10_isLine_298 ic_0 ?_
        cases hr
        exact V_iret hX hE rfl dX10_isLine_299
      · rw [if_neg h270] at hr
        refine V_aload_n hX dX10_isLine_273 rfl rfl ?_
        refine V_iload_n hX dX10_isLine_274 rfl rfl ?_
        refine V_iconst hX dX10_isLine_275 ic_3 ?_
        refine V_iadd hX dX10_isLine_276 ?_
        refine V_aload_n hX dX10_isLine_277 rfl rfl ?_
        refine G_RX10_50 hX dX10_isLine_278 ?_
        refine V_iload_n hX dX10_isLine_281 rfl rfl ?_
        refine V_iconst hX dX10_isLine_282 ic_2 ?_
        refine V_iadd hX dX10_isLine_283 ?_
        obtain ⟨hn284, hr⟩ := ifn hr
        refine V_iald hX (Nat.le_of_ble_eq_true rfl) lay_45 (inB_in hn284) dX10_isLine_284 ?_
        refine V_sipush hX dX10_isLine_285 sp_2000 ?_
        obtain ⟨q3, hq3, hr⟩ := bnd hr
        refine C_RX10_140 hX (c_X10_isNumber (by omega) hq3) (Nat.le_of_ble_eq_true rfl) dX10_isLine_288 ?_
        refine V_if_eq (tgt := 298) hX dX10_isLine_291 (by decide) (fun h291 => ?_) (fun h291 => ?_)
        · rw [if_pos h291] at hr
          refine V_iconst hX dX10_isLine_298 ic_0 ?_
          cases hr
          exact V_iret hX hE rfl dX10_isLine_299
        · rw [if_neg h291] at hr
          refine V_iconst hX dX10_isLine_294 ic_1 ?_
          refine V_goto (tgt := 299) hX dX10_isLine_295 (by decide) ?_
          cases hr
          exact V_iret hX hE rfl dX10_isLine_299
  rw [if_neg hs2] at hr
  by_cases hs3 : ((wS w 45 (ix s1) s2).1 45 (ix x1)) = 3
  · rw [if_pos hs3] at hr
    refine V_tableIn (tgt := 300) hX dX10_isLine_123 (by rw [hs3]; decide) (by rw [hs3]; decide) (by rw [hs3]; rfl) (by decide) ?_
    refine V_aload_n hX dX10_isLine_300 rfl rfl ?_
    refine V_iload_n hX dX10_isLine_301 rfl rfl ?_
    obtain ⟨q1, hq1, hr⟩ := bnd hr
    refine C_RX10_172 hX (c_X10_isOverLine (by omega) hq1) (Nat.le_of_ble_eq_true rfl) dX10_isLine_302 ?_
    obtain ⟨hbo, hr⟩ := ifn hr
    cases hr
    exact V_iret hX hE (bo_nar hbo) dX10_isLine_305
  rw [if_neg hs3] at hr
  by_cases hs4 : ((wS w 45 (ix s1) s2).1 45 (ix x1)) = 4
  · rw [if_pos hs4] at hr
    refine V_tableIn (tgt := 306) hX dX10_isLine_123 (by rw [hs4]; decide) (by rw [hs4]; decide) (by rw [hs4]; rfl) (by decide) ?_
    refine V_aload_n hX dX10_isLine_306 rfl rfl ?_
    refine V_iload_n hX dX10_isLine_307 rfl rfl ?_
    refine V_iconst hX dX10_isLine_308 ic_1 ?_
    refine V_iadd hX dX10_isLine_309 ?_
    refine V_iconst hX dX10_isLine_310 ic_1 ?_
    refine V_bipush hX dX10_isLine_311 bp_12 ?_
    obtain ⟨q1, hq1, hr⟩ := bnd hr
    refine C_RX10_140 hX (c_X10_isNumber (by omega) hq1) (Nat.le_of_ble_eq_true rfl) dX10_isLine_313 ?_
    refine V_if_eq (tgt := 391) hX dX10_isLine_316 (by decide) (fun h316 => ?_) (fun h316 => ?_)
    · rw [if_pos h316] at hr
      refine V_iconst hX dX10_isLine_391 ic_0 ?_
      cases hr
      exact V_iret hX hE rfl dX10_isLine_392
    · rw [if_neg h316] at hr
      refine V_aload_n hX dX10_isLine_319 rfl rfl ?_
      refine V_iload_n hX dX10_isLine_320 rfl rfl ?_
      refine V_iconst hX dX10_isLine_321 ic_2 ?_
      refine V_iadd hX dX10_isLine_322 ?_
      refine V_iconst hX dX10_isLine_323 ic_0 ?_
      refine V_bipush hX dX10_isLine_324 bp_40 ?_
      obtain ⟨q2, hq2, hr⟩ := bnd hr
      refine C_RX10_140 hX (c_X10_isNumber (by omega) hq2) (Nat.le_of_ble_eq_true rfl) dX10_isLine_326 ?_
      refine V_if_eq (tgt := 391) hX dX10_isLine_329 (by decide) (fun h329 => ?_) (fun h329 => ?_)
      · rw [if_pos h329] at hr
        refine V_iconst hX dX10_isLine_391 ic_0 ?_
        cases hr
        exact V_iret hX hE rfl dX10_isLine_392
      · rw [if_neg h329] at hr
        refine V_aload_n hX dX10_isLine_332 rfl rfl ?_
        refine V_iload_n hX dX10_isLine_333 rfl rfl ?_
        refine V_iconst hX dX10_isLine_334 ic_3 ?_
        refine V_iadd hX dX10_isLine_335 ?_
        refine V_aload_n hX dX10_isLine_336 rfl rfl ?_
        refine G_RX10_50 hX dX10_isLine_337 ?_
        refine V_iload_n hX dX10_isLine_340 rfl rfl ?_
        refine V_iconst hX dX10_isLine_341 ic_2 ?_
        refine V_iadd hX dX10_isLine_342 ?_
        obtain ⟨hn343, hr⟩ := ifn hr
        refine V_iald hX (Nat.le_of_ble_eq_true rfl) lay_45 (inB_in hn343) dX10_isLine_343 ?_
        refine V_bipush hX dX10_isLine_344 bp_40 ?_
        obtain ⟨q3, hq3, hr⟩ := bnd hr
        refine C_RX10_140 hX (c_X10_isNumber (by omega) hq3) (Nat.le_of_ble_eq_true rfl) dX10_isLine_346 ?_
        refine V_if_eq (tgt := 391) hX dX10_isLine_349 (by decide) (fun h349 => ?_) (fun h349 => ?_)
        · rw [if_pos h349] at hr
          refine V_iconst hX dX10_isLine_391 ic_0 ?_
          cases hr
          exact V_iret hX hE rfl dX10_isLine_392
        · rw [if_neg h349] at hr
          refine V_aload_n hX dX10_isLine_352 rfl rfl ?_
          refine V_iload_n hX dX10_isLine_353 rfl rfl ?_
          refine V_iconst hX dX10_isLine_354 ic_4 ?_
          refine V_iadd hX dX10_isLine_355 ?_
          refine V_iconst hX dX10_isLine_356 ic_0 ?_
          refine V_sipush hX dX10_isLine_357 sp_2000 ?_
          obtain ⟨q4, hq4, hr⟩ := bnd hr
          refine C_RX10_140 hX (c_X10_isNumber (by omega) hq4) (Nat.le_of_ble_eq_true rfl) dX10_isLine_360 ?_
          refine V_if_eq (tgt := 391) hX dX10_isLine_363 (by decide) (fun h363 => ?_) (fun h363 => ?_)
          · rw [if_pos h363] at hr
            refine V_iconst hX dX10_isLine_391 ic_0 ?_
            cases hr
            exact V_iret hX hE rfl dX10_isLine_392
          · rw [if_neg h363] at hr
            refine V_aload_n hX dX10_isLine_366 rfl rfl ?_
            refine V_iload_n hX dX10_isLine_367 rfl rfl ?_
            refine V_iconst hX dX10_isLine_368 ic_5 ?_
            refine V_iadd hX dX10_isLine_369 ?_
            refine V_aload_n hX dX10_isLine_370 rfl rfl ?_
            refine G_RX10_50 hX dX10_isLine_371 ?_
            refine V_iload_n hX dX10_isLine_374 rfl rfl ?_
            refine V_iconst hX dX10_isLine_375 ic_4 ?_
            refine V_iadd hX dX10_isLine_376 ?_
            obtain ⟨hn377, hr⟩ := ifn hr
            refine V_iald hX (Nat.le_of_ble_eq_true rfl) lay_45 (inB_in hn377) dX10_isLine_377 ?_
            refine V_sipush hX dX10_isLine_378 sp_2000 ?_
            obtain ⟨q5, hq5, hr⟩ := bnd hr
            refine C_RX10_140 hX (c_X10_isNumber (by omega) hq5) (Nat.le_of_ble_eq_true rfl) dX10_isLine_381 ?_
            refine V_if_eq (tgt := 391) hX dX10_isLine_384 (by decide) (fun h384 => ?_) (fun h384 => ?_)
            · rw [if_pos h384] at hr
              refine V_iconst hX dX10_isLine_391 ic_0 ?_
              cases hr
              exact V_iret hX hE rfl dX10_isLine_392
            · rw [if_neg h384] at hr
              refine V_iconst hX dX10_isLine_387 ic_1 ?_
              refine V_goto (tgt := 392) hX dX10_isLine_388 (by decide) ?_
              cases hr
              exact V_iret hX hE rfl dX10_isLine_392
  rw [if_neg hs4] at hr
  by_cases hs5 : ((wS w 45 (ix s1) s2).1 45 (ix x1)) = 5
  · rw [if_pos hs5] at hr
    refine V_tableIn (tgt := 393) hX dX10_isLine_123 (by rw [hs5]; decide) (by rw [hs5]; decide) (by rw [hs5]; rfl) (by decide) ?_
    refine V_mask [true, true] ?_
    exact v_X10_isLine_393 hd9 hX hE _ _ hr
  rw [if_neg hs5] at hr
  by_cases hs6 : ((wS w 45 (ix s1) s2).1 45 (ix x1)) = 6
  · rw [if_pos hs6] at hr
    refine V_tableIn (tgt := 393) hX dX10_isLine_123 (by rw [hs6]; decide) (by rw [hs6]; decide) (by rw [hs6]; rfl) (by decide) ?_
    refine V_mask [true, true] ?_
    exact v_X10_isLine_393 hd9 hX hE _ _ hr
  rw [if_neg hs6] at hr
  refine V_tableOut (tgt := 404) hX dX10_isLine_123 (tb_out 6 (fun j hj => by rcases (show j = 0 ∨ j = 1 ∨ j = 2 ∨ j = 3 ∨ j = 4 ∨ j = 5 ∨ j = 6 by omega) with rfl | rfl | rfl | rfl | rfl | rfl | rfl <;> assumption)) (by decide) ?_
  refine V_aload_n hX dX10_isLine_404 rfl rfl ?_
  obtain ⟨q1, hq1, hr⟩ := bnd hr
  refine C_RX10_136 hX (c_X10_fails (by omega) hq1) (Nat.le_of_ble_eq_true rfl) dX10_isLine_405 ?_
  obtain ⟨hbo, hr⟩ := ifn hr
  cases hr
  exact V_iret hX hE (bo_nar hbo) dX10_isLine_408
set_option maxRecDepth 100000 in
set_option maxHeartbeats 4000000 in
theorem c_X10_isLine {d : Nat} (hd9 : 4 ≤ d) {p0 : Int32} {w : Wd} {r : (Int32 × Wd)} (hr : f_X10_isLine p0 w = some r) : Con d yX10_isLine cX10_isLine 2 (some .boolean) [.ref 33, .int p0] w (some (.int r.1)) r.2 := by
  refine Con_of (by decide) (Nat.le_of_ble_eq_true rfl) (fun X hX hE => ?_)
  have hX : bOk cX10_isLine 2 RX10 d X := hX
  show bV X 0 [some (.ref 33), some (.int p0)] [] w
  obtain ⟨d, rfl⟩ : ∃ e, d = e + 1 := ⟨d - 1, by omega⟩
  unfold f_X10_isLine at hr
  refine V_aload_n hX dX10_isLine_0 rfl rfl ?_
  obtain ⟨q1, hq1, hr⟩ := bnd hr
  refine C_RX10_133 hX (c_X10_nextToken (by omega) hq1) (Nat.le_of_ble_eq_true rfl) dX10_isLine_1 ?_
  refine V_aload_n hX dX10_isLine_4 rfl rfl ?_
  refine G_RX10_50 hX dX10_isLine_5 ?_
  refine V_iload_n hX dX10_isLine_8 rfl rfl ?_
  refine V_aload_n hX dX10_isLine_9 rfl rfl ?_
  refine G_RX10_116 hX dX10_isLine_10 ?_
  refine V_ldc2 (v := 40136882) hX lc_RX10_155 dX10_isLine_13 ?_
  refine V_lcmp hX dX10_isLine_16 ?_
  refine V_if_ne (tgt := 24) hX dX10_isLine_17 (by decide) (fun h17 => ?_) (fun h17 => ?_)
  · rw [if_neg h17] at hr
    refine V_aload_n hX dX10_isLine_24 rfl rfl ?_
    refine G_RX10_116 hX dX10_isLine_25 ?_
    refine V_ldc2 (v := 257105) hX lc_RX10_157 dX10_isLine_28 ?_
    refine V_lcmp hX dX10_isLine_31 ?_
    refine V_if_ne (tgt := 39) hX dX10_isLine_32 (by decide) (fun h32 => ?_) (fun h32 => ?_)
    · rw [if_neg h32] at hr
      refine V_aload_n hX dX10_isLine_39 rfl rfl ?_
      refine G_RX10_116 hX dX10_isLine_40 ?_
      refine V_ldc2 (v := 495765) hX lc_RX10_159 dX10_isLine_43 ?_
      refine V_lcmp hX dX10_isLine_46 ?_
      refine V_if_ne (tgt := 54) hX dX10_isLine_47 (by decide) (fun h47 => ?_) (fun h47 => ?_)
      · rw [if_neg h47] at hr
        refine V_aload_n hX dX10_isLine_54 rfl rfl ?_
        refine G_RX10_116 hX dX10_isLine_55 ?_
        refine V_ldc2 (v := 311436) hX lc_RX10_161 dX10_isLine_58 ?_
        refine V_lcmp hX dX10_isLine_61 ?_
        refine V_if_ne (tgt := 69) hX dX10_isLine_62 (by decide) (fun h62 => ?_) (fun h62 => ?_)
        · rw [if_neg h62] at hr
          refine V_aload_n hX dX10_isLine_69 rfl rfl ?_
          refine G_RX10_116 hX dX10_isLine_70 ?_
          refine V_ldc2 (v := 397345) hX lc_RX10_163 dX10_isLine_73 ?_
          refine V_lcmp hX dX10_isLine_76 ?_
          refine V_if_ne (tgt := 84) hX dX10_isLine_77 (by decide) (fun h77 => ?_) (fun h77 => ?_)
          · rw [if_neg h77] at hr
            refine V_aload_n hX dX10_isLine_84 rfl rfl ?_
            refine G_RX10_116 hX dX10_isLine_85 ?_
            refine V_ldc2 (v := 10334396) hX lc_RX10_165 dX10_isLine_88 ?_
            refine V_lcmp hX dX10_isLine_91 ?_
            refine V_if_ne (tgt := 99) hX dX10_isLine_92 (by decide) (fun h92 => ?_) (fun h92 => ?_)
            · rw [if_neg h92] at hr
              refine V_aload_n hX dX10_isLine_99 rfl rfl ?_
              refine G_RX10_116 hX dX10_isLine_100 ?_
              refine V_ldc2 (v := 5146) hX lc_RX10_167 dX10_isLine_103 ?_
              refine V_lcmp hX dX10_isLine_106 ?_
              refine V_if_ne (tgt := 115) hX dX10_isLine_107 (by decide) (fun h107 => ?_) (fun h107 => ?_)
              · rw [if_neg h107] at hr
                refine V_iconst hX dX10_isLine_115 ic_m1 ?_
                refine V_mask [true, true] ?_
                exact v_X10_isLine_116 hd9 hX hE _ _ _ _ hr
              · rw [if_pos h107] at hr
                refine V_bipush hX dX10_isLine_110 bp_6 ?_
                refine V_goto (tgt := 116) hX dX10_isLine_112 (by decide) ?_
                refine V_mask [true, true] ?_
                exact v_X10_isLine_116 hd9 hX hE _ _ _ _ hr
            · rw [if_pos h92] at hr
              refine V_iconst hX dX10_isLine_95 ic_5 ?_
              refine V_goto (tgt := 116) hX dX10_isLine_96 (by decide) ?_
              refine V_mask [true, true] ?_
              exact v_X10_isLine_116 hd9 hX hE _ _ _ _ hr
          · rw [if_pos h77] at hr
            refine V_iconst hX dX10_isLine_80 ic_4 ?_
            refine V_goto (tgt := 116) hX dX10_isLine_81 (by decide) ?_
            refine V_mask [true, true] ?_
            exact v_X10_isLine_116 hd9 hX hE _ _ _ _ hr
        · rw [if_pos h62] at hr
          refine V_iconst hX dX10_isLine_65 ic_3 ?_
          refine V_goto (tgt := 116) hX dX10_isLine_66 (by decide) ?_
          refine V_mask [true, true] ?_
          exact v_X10_isLine_116 hd9 hX hE _ _ _ _ hr
      · rw [if_pos h47] at hr
        refine V_iconst hX dX10_isLine_50 ic_2 ?_
        refine V_goto (tgt := 116) hX dX10_isLine_51 (by decide) ?_
        refine V_mask [true, true] ?_
        exact v_X10_isLine_116 hd9 hX hE _ _ _ _ hr
    · rw [if_pos h32] at hr
      refine V_iconst hX dX10_isLine_35 ic_1 ?_
      refine V_goto (tgt := 116) hX dX10_isLine_36 (by decide) ?_
      refine V_mask [true, true] ?_
      exact v_X10_isLine_116 hd9 hX hE _ _ _ _ hr
  · rw [if_pos h17] at hr
    refine V_iconst hX dX10_isLine_20 ic_0 ?_
    refine V_goto (tgt := 116) hX dX10_isLine_21 (by decide) ?_
    refine V_mask [true, true] ?_
    exact v_X10_isLine_116 hd9 hX hE _ _ _ _ hr
