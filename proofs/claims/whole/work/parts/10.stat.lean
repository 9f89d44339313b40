def f_X9_within (p0 : Int32) (p1 : Int32) (p2 : Int32) (w : Wd) : Option (Int32 × Wd) := if p0 < p1 then
      (some (0, w))
    else
      (if p2 < p0 then
        (some (0, w))
      else
        (some (1, w)))
set_option maxRecDepth 100000 in
set_option maxHeartbeats 4000000 in
theorem c_X9_within {d : Nat} (hd9 : 0 ≤ d) {p0 : Int32} {p1 : Int32} {p2 : Int32} {w : Wd} {r : (Int32 × Wd)} (hr : f_X9_within p0 p1 p2 w = some r) : Con d yX9_within cX9_within 3 (some .boolean) [.int p0, .int p1, .int p2] w (some (.int r.1)) r.2 := by
  refine Con_of (by decide) (Nat.le_of_ble_eq_true rfl) (fun X hX hE => ?_)
  have hX : bOk cX9_within 3 RX9 d X := hX
  show bV X 0 [some (.int p0), some (.int p1), some (.int p2)] [] w
  unfold f_X9_within at hr
  refine V_iload_n hX dX9_within_0 rfl rfl ?_
  refine V_iload_n hX dX9_within_1 rfl rfl ?_
  refine V_icmp_lt (tgt := 14) hX dX9_within_2 (by decide) (fun h2 => ?_) (fun h2 => ?_)
  · rw [if_pos h2] at hr
    refine V_iconst hX dX9_within_14 ic_0 ?_
    cases hr
    exact V_iret hX hE rfl dX9_within_15
  · rw [if_neg h2] at hr
    refine V_iload_n hX dX9_within_5 rfl rfl ?_
    refine V_iload_n hX dX9_within_6 rfl rfl ?_
    refine V_icmp_gt (tgt := 14) hX dX9_within_7 (by decide) (fun h7 => ?_) (fun h7 => ?_)
    · rw [if_pos h7] at hr
      refine V_iconst hX dX9_within_14 ic_0 ?_
      cases hr
      exact V_iret hX hE rfl dX9_within_15
    · rw [if_neg h7] at hr
      refine V_iconst hX dX9_within_10 ic_1 ?_
      refine V_goto (tgt := 15) hX dX9_within_11 (by decide) ?_
      cases hr
      exact V_iret hX hE rfl dX9_within_15
def f_X9_has (p0 : Int32) (p1 : Int32) (w : Wd) : Option (Int32 × Wd) := if ((jshr p0 p1) &&& 1) = 1 then
      (some (1, w))
    else
      (some (0, w))
set_option maxRecDepth 100000 in
set_option maxHeartbeats 4000000 in
theorem c_X9_has {d : Nat} (hd9 : 0 ≤ d) {p0 : Int32} {p1 : Int32} {w : Wd} {r : (Int32 × Wd)} (hr : f_X9_has p0 p1 w = some r) : Con d yX9_has cX9_has 2 (some .boolean) [.int p0, .int p1] w (some (.int r.1)) r.2 := by
  refine Con_of (by decide) (Nat.le_of_ble_eq_true rfl) (fun X hX hE => ?_)
  have hX : bOk cX9_has 2 RX9 d X := hX
  show bV X 0 [some (.int p0), some (.int p1)] [] w
  unfold f_X9_has at hr
  refine V_iload_n hX dX9_has_0 rfl rfl ?_
  refine V_iload_n hX dX9_has_1 rfl rfl ?_
  refine V_ishr hX dX9_has_2 ?_
  refine V_iconst hX dX9_has_3 ic_1 ?_
  refine V_iand hX dX9_has_4 ?_
  refine V_iconst hX dX9_has_5 ic_1 ?_
  refine V_icmp_ne (tgt := 13) hX dX9_has_6 (by decide) (fun h6 => ?_) (fun h6 => ?_)
  · rw [if_neg h6] at hr
    refine V_iconst hX dX9_has_13 ic_0 ?_
    cases hr
    exact V_iret hX hE rfl dX9_has_14
  · rw [if_pos h6] at hr
    refine V_iconst hX dX9_has_9 ic_1 ?_
    refine V_goto (tgt := 14) hX dX9_has_10 (by decide) ?_
    cases hr
    exact V_iret hX hE rfl dX9_has_14
def f_X9_oneIf (p0 : Int32) (w : Wd) : Option (Int32 × Wd) := if p0 = 0 then
      (some (0, w))
    else
      (some (1, w))
set_option maxRecDepth 100000 in
set_option maxHeartbeats 4000000 in
theorem c_X9_oneIf {d : Nat} (hd9 : 0 ≤ d) {p0 : Int32} {w : Wd} {r : (Int32 × Wd)} (hr : f_X9_oneIf p0 w = some r) : Con d yX9_oneIf cX9_oneIf 1 (some .int) [.int p0] w (some (.int r.1)) r.2 := by
  refine Con_of (by decide) (Nat.le_of_ble_eq_true rfl) (fun X hX hE => ?_)
  have hX : bOk cX9_oneIf 1 RX9 d X := hX
  show bV X 0 [some (.int p0)] [] w
  unfold f_X9_oneIf at hr
  refine V_iload_n hX dX9_oneIf_0 rfl rfl ?_
  refine V_if_eq (tgt := 8) hX dX9_oneIf_1 (by decide) (fun h1 => ?_) (fun h1 => ?_)
  · rw [if_pos h1] at hr
    refine V_iconst hX dX9_oneIf_8 ic_0 ?_
    cases hr
    exact V_iret hX hE rfl dX9_oneIf_9
  · rw [if_neg h1] at hr
    refine V_iconst hX dX9_oneIf_4 ic_1 ?_
    refine V_goto (tgt := 9) hX dX9_oneIf_5 (by decide) ?_
    cases hr
    exact V_iret hX hE rfl dX9_oneIf_9
def f_X9_remainder (p0 : Int32) (p1 : Int32) (w : Wd) : Option (Int32 × Wd) := if 1 ≤ p1 then
      (if p1 = 0 then none else some ((jrem p0 p1), w))
    else
      (some (0, w))
set_option maxRecDepth 100000 in
set_option maxHeartbeats 4000000 in
theorem c_X9_remainder {d : Nat} (hd9 : 0 ≤ d) {p0 : Int32} {p1 : Int32} {w : Wd} {r : (Int32 × Wd)} (hr : f_X9_remainder p0 p1 w = some r) : Con d yX9_remainder cX9_remainder 2 (some .int) [.int p0, .int p1] w (some (.int r.1)) r.2 := by
  refine Con_of (by decide) (Nat.le_of_ble_eq_true rfl) (fun X hX hE => ?_)
  have hX : bOk cX9_remainder 2 RX9 d X := hX
  show bV X 0 [some (.int p0), some (.int p1)] [] w
  unfold f_X9_remainder at hr
  refine V_iload_n hX dX9_remainder_0 rfl rfl ?_
  refine V_iconst hX dX9_remainder_1 ic_1 ?_
  refine V_icmp_ge (tgt := 9) hX dX9_remainder_2 (by decide) (fun h2 => ?_) (fun h2 => ?_)
  · rw [if_pos h2] at hr
    refine V_iload_n hX dX9_remainder_9 rfl rfl ?_
    refine V_iload_n hX dX9_remainder_10 rfl rfl ?_
    obtain ⟨hn11, hr⟩ := ifz hr
    refine V_irem hX dX9_remainder_11 hn11 ?_
    cases hr
    exact V_iret hX hE rfl dX9_remainder_12
  · rw [if_neg h2] at hr
    refine V_iconst hX dX9_remainder_5 ic_0 ?_
    refine V_goto (tgt := 12) hX dX9_remainder_6 (by decide) ?_
    cases hr
    exact V_iret hX hE rfl dX9_remainder_12
def f_J6_bitCount_0f7a4 (p0 : Int32) (w : Wd) : Option (Int32 × Wd) := some (((((((((p0 - ((jushr p0 1) &&& 1431655765)) &&& 858993459) + ((jushr (p0 - ((jushr p0 1) &&& 1431655765)) 2) &&& 858993459)) + (jushr (((p0 - ((jushr p0 1) &&& 1431655765)) &&& 858993459) + ((jushr (p0 - ((jushr p0 1) &&& 1431655765)) 2) &&& 858993459)) 4)) &&& 252645135) + (jushr (((((p0 - ((jushr p0 1) &&& 1431655765)) &&& 858993459) + ((jushr (p0 - ((jushr p0 1) &&& 1431655765)) 2) &&& 858993459)) + (jushr (((p0 - ((jushr p0 1) &&& 1431655765)) &&& 858993459) + ((jushr (p0 - ((jushr p0 1) &&& 1431655765)) 2) &&& 858993459)) 4)) &&& 252645135) 8)) + (jushr ((((((p0 - ((jushr p0 1) &&& 1431655765)) &&& 858993459) + ((jushr (p0 - ((jushr p0 1) &&& 1431655765)) 2) &&& 858993459)) + (jushr (((p0 - ((jushr p0 1) &&& 1431655765)) &&& 858993459) + ((jushr (p0 - ((jushr p0 1) &&& 1431655765)) 2) &&& 858993459)) 4)) &&& 252645135) + (jushr (((((p0 - ((jushr p0 1) &&& 1431655765)) &&& 858993459) + ((jushr (p0 - ((jushr p0 1) &&& 1431655765)) 2) &&& 858993459)) + (jushr (((p0 - ((jushr p0 1) &&& 1431655765)) &&& 858993459) + ((jushr (p0 - ((jushr p0 1) &&& 1431655765)) 2) &&& 858993459)) 4)) &&& 252645135) 8)) 16)) &&& 63), w)
set_option maxRecDepth 100000 in
set_option maxHeartbeats 4000000 in
theorem c_J6_bitCount_0f7a4 {d : Nat} (hd9 : 0 ≤ d) {p0 : Int32} {w : Wd} {r : (Int32 × Wd)} (hr : f_J6_bitCount_0f7a4 p0 w = some r) : Con d yJ6_bitCount_0f7a4 cJ6_bitCount_0f7a4 1 (some .int) [.int p0] w (some (.int r.1)) r.2 := by
  refine Con_of (by decide) (Nat.le_of_ble_eq_true rfl) (fun X hX hE => ?_)
  have hX : bOk cJ6_bitCount_0f7a4 1 RJ6 d X := hX
  show bV X 0 [some (.int p0)] [] w
  unfold f_J6_bitCount_0f7a4 at hr
  refine V_iload_n hX dJ6_bitCount_0f7a4_0 rfl rfl ?_
  refine V_iload_n hX dJ6_bitCount_0f7a4_1 rfl rfl ?_
  refine V_iconst hX dJ6_bitCount_0f7a4_2 ic_1 ?_
  refine V_iushr hX dJ6_bitCount_0f7a4_3 ?_
  refine V_ldcw (v := 1431655765) hX lc_RJ6_265 dJ6_bitCount_0f7a4_4 ?_
  refine V_iand hX dJ6_bitCount_0f7a4_7 ?_
  refine V_isub hX dJ6_bitCount_0f7a4_8 ?_
  refine V_istore_n hX dJ6_bitCount_0f7a4_9 rfl (Nat.le_of_ble_eq_true rfl) rfl ?_
  refine V_iload_n hX dJ6_bitCount_0f7a4_10 rfl rfl ?_
  refine V_ldcw (v := 858993459) hX lc_RJ6_266 dJ6_bitCount_0f7a4_11 ?_
  refine V_iand hX dJ6_bitCount_0f7a4_14 ?_
  refine V_iload_n hX dJ6_bitCount_0f7a4_15 rfl rfl ?_
  refine V_iconst hX dJ6_bitCount_0f7a4_16 ic_2 ?_
  refine V_iushr hX dJ6_bitCount_0f7a4_17 ?_
  refine V_ldcw (v := 858993459) hX lc_RJ6_266 dJ6_bitCount_0f7a4_18 ?_
  refine V_iand hX dJ6_bitCount_0f7a4_21 ?_
  refine V_iadd hX dJ6_bitCount_0f7a4_22 ?_
  refine V_istore_n hX dJ6_bitCount_0f7a4_23 rfl (Nat.le_of_ble_eq_true rfl) rfl ?_
  refine V_iload_n hX dJ6_bitCount_0f7a4_24 rfl rfl ?_
  refine V_iload_n hX dJ6_bitCount_0f7a4_25 rfl rfl ?_
  refine V_iconst hX dJ6_bitCount_0f7a4_26 ic_4 ?_
  refine V_iushr hX dJ6_bitCount_0f7a4_27 ?_
  refine V_iadd hX dJ6_bitCount_0f7a4_28 ?_
  refine V_ldcw (v := 252645135) hX lc_RJ6_267 dJ6_bitCount_0f7a4_29 ?_
  refine V_iand hX dJ6_bitCount_0f7a4_32 ?_
  refine V_istore_n hX dJ6_bitCount_0f7a4_33 rfl (Nat.le_of_ble_eq_true rfl) rfl ?_
  refine V_iload_n hX dJ6_bitCount_0f7a4_34 rfl rfl ?_
  refine V_iload_n hX dJ6_bitCount_0f7a4_35 rfl rfl ?_
  refine V_bipush hX dJ6_bitCount_0f7a4_36 bp_8 ?_
  refine V_iushr hX dJ6_bitCount_0f7a4_38 ?_
  refine V_iadd hX dJ6_bitCount_0f7a4_39 ?_
  refine V_istore_n hX dJ6_bitCount_0f7a4_40 rfl (Nat.le_of_ble_eq_true rfl) rfl ?_
  refine V_iload_n hX dJ6_bitCount_0f7a4_41 rfl rfl ?_
  refine V_iload_n hX dJ6_bitCount_0f7a4_42 rfl rfl ?_
  refine V_bipush hX dJ6_bitCount_0f7a4_43 bp_16 ?_
  refine V_iushr hX dJ6_bitCount_0f7a4_45 ?_
  refine V_iadd hX dJ6_bitCount_0f7a4_46 ?_
  refine V_istore_n hX dJ6_bitCount_0f7a4_47 rfl (Nat.le_of_ble_eq_true rfl) rfl ?_
  refine V_iload_n hX dJ6_bitCount_0f7a4_48 rfl rfl ?_
  refine V_bipush hX dJ6_bitCount_0f7a4_49 bp_63 ?_
  refine V_iand hX dJ6_bitCount_0f7a4_51 ?_
  cases hr
  exact V_iret hX hE rfl dJ6_bitCount_0f7a4_52
