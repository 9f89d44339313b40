def f_X6_add_3 : Nat → Int64 → Int32 → Int32 → Wd → Option Wd
  | 0, _, _, _, _ => none
  | n + 1, x1, x3, x4, w => if x3 ≤ x4 then
        (some (wS w 1 1 ((w.1 1 1) + x3)))
      else
        (Option.bind (f_X9_put 2 ((w.1 1 1) + x4) (Int64.toInt32 ((jlshr x1 (8 * x4)) &&& 255)) w) fun q1 =>
        f_X6_add_3 n x1 x3 (x4 + 1) q1)
def f_X6_add (p0 : Int64) (p1 : Int32) (w : Wd) : Option Wd := f_X6_add_3 fu p0 p1 0 w
set_option maxRecDepth 100000 in
set_option maxHeartbeats 4000000 in
theorem v_X6_add_3 {d : Nat} (hd9 : 1 ≤ d) {X : bX} (hX : bOk cX6_add 5 RX6 d X) {r : Wd} (hE : bEnd none none r X) : ∀ (n : Nat) (x1 : Int64) (x3 : Int32) (x4 : Int32) (w : Wd), f_X6_add_3 n x1 x3 x4 w = some r → bV X 3 [some (.ref 1), some (.long x1), none, some (.int x3), some (.int x4)] [] w := by
  obtain ⟨d, rfl⟩ : ∃ e, d = e + 1 := ⟨d - 1, by omega⟩
  intro n
  induction n with
  | zero => intro x1 x3 x4 w hr; exact absurd hr (by simp [f_X6_add_3])
  | succ n ih =>
    intro x1 x3 x4 w hr
    rw [f_X6_add_3] at hr
    refine V_iload hX dX6_add_3 rfl ?_
    refine V_iload_n hX dX6_add_5 rfl rfl ?_
    refine V_icmp_ge (tgt := 41) hX dX6_add_6 (by decide) (fun h6 => ?_) (fun h6 => ?_)
    · rw [if_pos h6] at hr
      refine V_aload_n hX dX6_add_41 rfl rfl ?_
      refine V_dup hX dX6_add_42 rfl ?_
      refine G_RX6_13 hX dX6_add_43 ?_
      refine V_iload_n hX dX6_add_46 rfl rfl ?_
      refine V_iadd hX dX6_add_47 ?_
      refine P_RX6_13 hX dX6_add_48 ?_
      cases hr
      exact V_vret hX hE dX6_add_51
    · rw [if_neg h6] at hr
      refine V_aload_n hX dX6_add_9 rfl rfl ?_
      refine G_RX6_9 hX dX6_add_10 ?_
      refine V_aload_n hX dX6_add_13 rfl rfl ?_
      refine G_RX6_13 hX dX6_add_14 ?_
      refine V_iload hX dX6_add_17 rfl ?_
      refine V_iadd hX dX6_add_19 ?_
      refine V_lload_n hX dX6_add_20 rfl rfl ?_
      refine V_bipush hX dX6_add_21 bp_8 ?_
      refine V_iload hX dX6_add_23 rfl ?_
      refine V_imul hX dX6_add_25 ?_
      refine V_lshr hX dX6_add_26 ?_
      refine V_ldc2 (v := 255) hX lc_RX6_17 dX6_add_27 ?_
      refine V_land hX dX6_add_30 ?_
      refine V_l2i hX dX6_add_31 ?_
      obtain ⟨q1, hq1, hr⟩ := bnd hr
      refine C_RX6_19 hX (c_X9_put (by omega) hq1) (Nat.le_of_ble_eq_true rfl) dX6_add_32 ?_
      refine V_iinc hX dX6_add_35 rfl (ii_1 _) (Nat.le_of_ble_eq_true rfl) rfl ?_
      refine V_goto (tgt := 3) hX dX6_add_38 (by decide) ?_
      refine V_mask [true, true, false, true, true] ?_
      exact ih _ _ _ _ hr
set_option maxRecDepth 100000 in
set_option maxHeartbeats 4000000 in
theorem c_X6_add {d : Nat} (hd9 : 1 ≤ d) {p0 : Int64} {p1 : Int32} {w : Wd} {r : Wd} (hr : f_X6_add p0 p1 w = some r) : Con d yX6_add cX6_add 5 none [.ref 1, .long p0, .int p1] w none r := by
  refine Con_of (by decide) (Nat.le_of_ble_eq_true rfl) (fun X hX hE => ?_)
  have hX : bOk cX6_add 5 RX6 d X := hX
  show bV X 0 [some (.ref 1), some (.long p0), none, some (.int p1), none] [] w
  obtain ⟨d, rfl⟩ : ∃ e, d = e + 1 := ⟨d - 1, by omega⟩
  unfold f_X6_add at hr
  refine V_iconst hX dX6_add_0 ic_0 ?_
  refine V_istore hX dX6_add_1 (Nat.le_of_ble_eq_true rfl) rfl ?_
  refine V_mask [true, true, false, true, true] ?_
  exact v_X6_add_3 hd9 hX hE _ _ _ _ _ hr
def f_X6_hasRoomFor (p0 : Int32) (w : Wd) : Option (Int32 × Wd) := if 200 < ((w.1 1 1) + p0) then
      (some (0, w))
    else
      (some (1, w))
set_option maxRecDepth 100000 in
set_option maxHeartbeats 4000000 in
theorem c_X6_hasRoomFor {d : Nat} (hd9 : 0 ≤ d) {p0 : Int32} {w : Wd} {r : (Int32 × Wd)} (hr : f_X6_hasRoomFor p0 w = some r) : Con d yX6_hasRoomFor cX6_hasRoomFor 2 (some .boolean) [.ref 1, .int p0] w (some (.int r.1)) r.2 := by
  refine Con_of (by decide) (Nat.le_of_ble_eq_true rfl) (fun X hX hE => ?_)
  have hX : bOk cX6_hasRoomFor 2 RX6 d X := hX
  show bV X 0 [some (.ref 1), some (.int p0)] [] w
  unfold f_X6_hasRoomFor at hr
  refine V_aload_n hX dX6_hasRoomFor_0 rfl rfl ?_
  refine G_RX6_13 hX dX6_hasRoomFor_1 ?_
  refine V_iload_n hX dX6_hasRoomFor_4 rfl rfl ?_
  refine V_iadd hX dX6_hasRoomFor_5 ?_
  refine V_sipush hX dX6_hasRoomFor_6 sp_200 ?_
  refine V_icmp_gt (tgt := 16) hX dX6_hasRoomFor_9 (by decide) (fun h9 => ?_) (fun h9 => ?_)
  · rw [if_pos h9] at hr
    refine V_iconst hX dX6_hasRoomFor_16 ic_0 ?_
    cases hr
    exact V_iret hX hE rfl dX6_hasRoomFor_17
  · rw [if_neg h9] at hr
    refine V_iconst hX dX6_hasRoomFor_12 ic_1 ?_
    refine V_goto (tgt := 17) hX dX6_hasRoomFor_13 (by decide) ?_
    cases hr
    exact V_iret hX hE rfl dX6_hasRoomFor_17
