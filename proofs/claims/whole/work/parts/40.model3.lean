def f_X10_areTwo (p0 : Int32) (p1 : Int32) (w : Wd) : Option (Int32 × Wd) := Option.bind (f_X10_isBundle p0 w) fun q1 =>
    if q1.1 = 0 then
      (some (0, q1.2))
    else
      (Option.bind (f_X10_isBundle p1 q1.2) fun q2 =>
      if q2.1 = 0 then
        (some (0, q2.2))
      else
        (if p0 = p1 then
          (some (0, q2.2))
        else
          (some (1, q2.2))))
set_option maxRecDepth 100000 in
set_option maxHeartbeats 4000000 in
theorem c_X10_areTwo {d : Nat} (hd9 : 3 ≤ d) {p0 : Int32} {p1 : Int32} {w : Wd} {r : (Int32 × Wd)} (hr : f_X10_areTwo p0 p1 w = some r) : Con d yX10_areTwo cX10_areTwo 3 (some .boolean) [.ref 33, .int p0, .int p1] w (some (.int r.1)) r.2 := by
  refine Con_of (by decide) (Nat.le_of_ble_eq_true rfl) (fun X hX hE => ?_)
  have hX : bOk cX10_areTwo 3 RX10 d X := hX
  show bV X 0 [some (.ref 33), some (.int p0), some (.int p1)] [] w
  obtain ⟨d, rfl⟩ : ∃ e, d = e + 1 := ⟨d - 1, by omega⟩
  unfold f_X10_areTwo at hr
  refine V_aload_n hX dX10_areTwo_0 rfl rfl ?_
  refine V_iload_n hX dX10_areTwo_1 rfl rfl ?_
  obtain ⟨q1, hq1, hr⟩ := bnd hr
  refine C_RX10_205 hX (c_X10_isBundle (by omega) hq1) (Nat.le_of_ble_eq_true rfl) dX10_areTwo_2 ?_
  refine V_if_eq (tgt := 25) hX dX10_areTwo_5 (by decide) (fun h5 => ?_) (fun h5 => ?_)
  · rw [if_pos h5] at hr
    refine V_iconst hX dX10_areTwo_25 ic_0 ?_
    cases hr
    exact V_iret hX hE rfl dX10_areTwo_26
  · rw [if_neg h5] at hr
    refine V_aload_n hX dX10_areTwo_8 rfl rfl ?_
    refine V_iload_n hX dX10_areTwo_9 rfl rfl ?_
    obtain ⟨q2, hq2, hr⟩ := bnd hr
    refine C_RX10_205 hX (c_X10_isBundle (by omega) hq2) (Nat.le_of_ble_eq_true rfl) dX10_areTwo_10 ?_
    refine V_if_eq (tgt := 25) hX dX10_areTwo_13 (by decide) (fun h13 => ?_) (fun h13 => ?_)
    · rw [if_pos h13] at hr
      refine V_iconst hX dX10_areTwo_25 ic_0 ?_
      cases hr
      exact V_iret hX hE rfl dX10_areTwo_26
    · rw [if_neg h13] at hr
      refine V_iload_n hX dX10_areTwo_16 rfl rfl ?_
      refine V_iload_n hX dX10_areTwo_17 rfl rfl ?_
      refine V_icmp_eq (tgt := 25) hX dX10_areTwo_18 (by decide) (fun h18 => ?_) (fun h18 => ?_)
      · rw [if_pos h18] at hr
        refine V_iconst hX dX10_areTwo_25 ic_0 ?_
        cases hr
        exact V_iret hX hE rfl dX10_areTwo_26
      · rw [if_neg h18] at hr
        refine V_iconst hX dX10_areTwo_21 ic_1 ?_
        refine V_goto (tgt := 26) hX dX10_areTwo_22 (by decide) ?_
        cases hr
        exact V_iret hX hE rfl dX10_areTwo_26
def f_X10_joined (p0 : Int32) (p1 : Int32) (w : Wd) : Option (Int32 × Wd) := Option.bind (f_X10_areTwo p0 p1 w) fun q1 =>
    if q1.1 = 0 then
      (some ((-2), q1.2))
    else
      (Option.bind (f_X10_areJoined p0 p1 q1.2) fun q2 =>
      if q2.1 = 0 then
        (some (0, q2.2))
      else
        (some (1, q2.2)))
set_option maxRecDepth 100000 in
set_option maxHeartbeats 4000000 in
theorem c_X10_joined {d : Nat} (hd9 : 4 ≤ d) {p0 : Int32} {p1 : Int32} {w : Wd} {r : (Int32 × Wd)} (hr : f_X10_joined p0 p1 w = some r) : Con d yX10_joined cX10_joined 3 (some .int) [.ref 33, .int p0, .int p1] w (some (.int r.1)) r.2 := by
  refine Con_of (by decide) (Nat.le_of_ble_eq_true rfl) (fun X hX hE => ?_)
  have hX : bOk cX10_joined 3 RX10 d X := hX
  show bV X 0 [some (.ref 33), some (.int p0), some (.int p1)] [] w
  obtain ⟨d, rfl⟩ : ∃ e, d = e + 1 := ⟨d - 1, by omega⟩
  unfold f_X10_joined at hr
  refine V_aload_n hX dX10_joined_0 rfl rfl ?_
  refine V_iload_n hX dX10_joined_1 rfl rfl ?_
  refine V_iload_n hX dX10_joined_2 rfl rfl ?_
  obtain ⟨q1, hq1, hr⟩ := bnd hr
  refine C_RX10_247 hX (c_X10_areTwo (by omega) hq1) (Nat.le_of_ble_eq_true rfl) dX10_joined_3 ?_
  refine V_if_ne (tgt := 14) hX dX10_joined_6 (by decide) (fun h6 => ?_) (fun h6 => ?_)
  · rw [if_neg h6] at hr
    refine V_aload_n hX dX10_joined_14 rfl rfl ?_
    refine V_iload_n hX dX10_joined_15 rfl rfl ?_
    refine V_iload_n hX dX10_joined_16 rfl rfl ?_
    obtain ⟨q2, hq2, hr⟩ := bnd hr
    refine C_RX10_250 hX (c_X10_areJoined (by omega) hq2) (Nat.le_of_ble_eq_true rfl) dX10_joined_17 ?_
    refine V_if_eq (tgt := 27) hX dX10_joined_20 (by decide) (fun h20 => ?_) (fun h20 => ?_)
    · rw [if_pos h20] at hr
      refine V_iconst hX dX10_joined_27 ic_0 ?_
      cases hr
      exact V_iret hX hE rfl dX10_joined_28
    · rw [if_neg h20] at hr
      refine V_iconst hX dX10_joined_23 ic_1 ?_
      refine V_goto (tgt := 28) hX dX10_joined_24 (by decide) ?_
      cases hr
      exact V_iret hX hE rfl dX10_joined_28
  · rw [if_pos h6] at hr
    refine V_bipush hX dX10_joined_9 bp_m2 ?_
    refine V_goto (tgt := 28) hX dX10_joined_11 (by decide) ?_
    cases hr
    exact V_iret hX hE rfl dX10_joined_28
def f_X10_meets (p0 : Int32) (p1 : Int32) (p2 : Int32) (p3 : Int32) (w : Wd) : Option (Int32 × Wd) := if (p2 + p3) ≤ p0 then
      (some (0, w))
    else
      (if (p0 + p1) ≤ p2 then
        (some (0, w))
      else
        (some (1, w)))
set_option maxRecDepth 100000 in
set_option maxHeartbeats 4000000 in
theorem c_X10_meets {d : Nat} (hd9 : 0 ≤ d) {p0 : Int32} {p1 : Int32} {p2 : Int32} {p3 : Int32} {w : Wd} {r : (Int32 × Wd)} (hr : f_X10_meets p0 p1 p2 p3 w = some r) : Con d yX10_meets cX10_meets 4 (some .boolean) [.int p0, .int p1, .int p2, .int p3] w (some (.int r.1)) r.2 := by
  refine Con_of (by decide) (Nat.le_of_ble_eq_true rfl) (fun X hX hE => ?_)
  have hX : bOk cX10_meets 4 RX10 d X := hX
  show bV X 0 [some (.int p0), some (.int p1), some (.int p2), some (.int p3)] [] w
  unfold f_X10_meets at hr
  refine V_iload_n hX dX10_meets_0 rfl rfl ?_
  refine V_iload_n hX dX10_meets_1 rfl rfl ?_
  refine V_iload_n hX dX10_meets_2 rfl rfl ?_
  refine V_iadd hX dX10_meets_3 ?_
  refine V_icmp_ge (tgt := 18) hX dX10_meets_4 (by decide) (fun h4 => ?_) (fun h4 => ?_)
  · rw [if_pos h4] at hr
    refine V_iconst hX dX10_meets_18 ic_0 ?_
    cases hr
    exact V_iret hX hE rfl dX10_meets_19
  · rw [if_neg h4] at hr
    refine V_iload_n hX dX10_meets_7 rfl rfl ?_
    refine V_iload_n hX dX10_meets_8 rfl rfl ?_
    refine V_iload_n hX dX10_meets_9 rfl rfl ?_
    refine V_iadd hX dX10_meets_10 ?_
    refine V_icmp_ge (tgt := 18) hX dX10_meets_11 (by decide) (fun h11 => ?_) (fun h11 => ?_)
    · rw [if_pos h11] at hr
      refine V_iconst hX dX10_meets_18 ic_0 ?_
      cases hr
      exact V_iret hX hE rfl dX10_meets_19
    · rw [if_neg h11] at hr
      refine V_iconst hX dX10_meets_14 ic_1 ?_
      refine V_goto (tgt := 19) hX dX10_meets_15 (by decide) ?_
      cases hr
      exact V_iret hX hE rfl dX10_meets_19
def f_X10_later_305 (k154 : Int32 → Int32 → Int32 → Int32 → Int32 → Int32 → Int32 → Wd → Option (Int32 × Wd)) (s0 : Int32) (x1 : Int32) (x5 : Int32) (x6 : Int32) (x7 : Int32) (x10 : Int32) (x11 : Int32) (x12 : Int32) (w : Wd) : Option (Int32 × Wd) := if s0 = 0 then
      (k154 x1 x5 x6 x7 x10 (x11 ||| 0) (x12 + 1) w)
    else
      (k154 x1 x5 x6 x7 x10 (x11 ||| (jshl 1 x12)) (x12 + 1) w)
def f_X10_later_304 (k154 : Int32 → Int32 → Int32 → Int32 → Int32 → Int32 → Int32 → Wd → Option (Int32 × Wd)) (x1 : Int32) (x5 : Int32) (x6 : Int32) (x7 : Int32) (x10 : Int32) (x11 : Int32) (x12 : Int32) (w : Wd) : Option (Int32 × Wd) := f_X10_later_305 k154 0 x1 x5 x6 x7 x10 x11 x12 w
def f_X10_later_248 (k154 : Int32 → Int32 → Int32 → Int32 → Int32 → Int32 → Int32 → Wd → Option (Int32 × Wd)) (x1 : Int32) (x5 : Int32) (x6 : Int32) (x7 : Int32) (x10 : Int32) (x11 : Int32) (x12 : Int32) (w : Wd) : Option (Int32 × Wd) := f_X10_later_305 k154 0 x1 x5 x6 x7 x10 x11 x12 w
def f_X10_later_189 (k154 : Int32 → Int32 → Int32 → Int32 → Int32 → Int32 → Int32 → Wd → Option (Int32 × Wd)) (s0 : Int32) (x1 : Int32) (x5 : Int32) (x6 : Int32) (x7 : Int32) (x10 : Int32) (x11 : Int32) (x12 : Int32) (w : Wd) : Option (Int32 × Wd) := if s0 = 0 then
      (if inB x12 14 then (if inB x12 14 then (Option.bind (f_X10_meets (w.1 36 (ix x12)) (w.1 38 (ix x12)) x5 x6 w) fun q1 =>
      if q1.1 = 0 then
        (f_X10_later_304 k154 x1 x5 x6 x7 x10 x11 x12 q1.2)
      else
        (if inB x12 14 then (if inB x12 14 then (Option.bind (f_X10_meets (q1.2.1 35 (ix x12)) (q1.2.1 37 (ix x12)) x7 x10 q1.2) fun q2 =>
        if q2.1 = 0 then
          (f_X10_later_304 k154 x1 x5 x6 x7 x10 x11 x12 q2.2)
        else
          (f_X10_later_305 k154 1 x1 x5 x6 x7 x10 x11 x12 q2.2)) else none) else none)) else none) else none)
    else
      (if inB x12 14 then (if inB x12 14 then (Option.bind (f_X10_meets (w.1 35 (ix x12)) (w.1 37 (ix x12)) x5 x6 w) fun q1 =>
      if q1.1 = 0 then
        (f_X10_later_248 k154 x1 x5 x6 x7 x10 x11 x12 q1.2)
      else
        (if inB x12 14 then (if inB x12 14 then (Option.bind (f_X10_meets (q1.2.1 36 (ix x12)) (q1.2.1 38 (ix x12)) x7 x10 q1.2) fun q2 =>
        if q2.1 = 0 then
          (f_X10_later_248 k154 x1 x5 x6 x7 x10 x11 x12 q2.2)
        else
          (f_X10_later_305 k154 1 x1 x5 x6 x7 x10 x11 x12 q2.2)) else none) else none)) else none) else none)
def f_X10_later_154 : Nat → Int32 → Int32 → Int32 → Int32 → Int32 → Int32 → Int32 → Wd → Option (Int32 × Wd)
  | 0, _, _, _, _, _, _, _, _ => none
  | n + 1, x1, x5, x6, x7, x10, x11, x12, w => if 14 ≤ x12 then
        (some (x11, w))
      else
        (Option.bind (f_X10_isThing x12 w) fun q1 =>
        if q1.1 = 0 then
          (f_X10_later_154 n x1 x5 x6 x7 x10 x11 (x12 + 1) q1.2)
        else
          (if x6 ≤ 0 then
            (f_X10_later_154 n x1 x5 x6 x7 x10 x11 (x12 + 1) q1.2)
          else
            (Option.bind (f_X10_of x1 0 q1.2) fun q2 =>
            if q2.1 = 0 then
              (f_X10_later_189 (f_X10_later_154 n) 1 x1 x5 x6 x7 x10 x11 x12 q2.2)
            else
              (f_X10_later_189 (f_X10_later_154 n) 0 x1 x5 x6 x7 x10 x11 x12 q2.2))))
def f_X10_later_142 (s0 : Int32) (x1 : Int32) (x5 : Int32) (x6 : Int32) (x7 : Int32) (w : Wd) : Option (Int32 × Wd) := f_X10_later_154 fu x1 x5 x6 x7 (s0 - x7) 0 8 w
def f_X10_later_100 (s0 : Int32) (x1 : Int32) (x2 : Int32) (x5 : Int32) (x6 : Int32) (w : Wd) : Option (Int32 × Wd) := Option.bind (f_X10_sideOf x1 w) fun q1 =>
    Option.bind (f_X10_broadOf x1 q1.2) fun q2 =>
    Option.bind (f_X10_sideOf x2 q2.2) fun q3 =>
    Option.bind (f_X10_broadOf x2 q3.2) fun q4 =>
    if (q1.1 + q2.1) ≤ (q3.1 + q4.1) then
      (f_X10_later_142 (q3.1 + q4.1) x1 x5 x6 s0 q4.2)
    else
      (f_X10_later_142 (q1.1 + q2.1) x1 x5 x6 s0 q4.2)
def f_X10_later_49 (s0 : Int32) (x1 : Int32) (x2 : Int32) (x3 : Int32) (w : Wd) : Option (Int32 × Wd) := Option.bind (f_X10_beginOf x3 w) fun q1 =>
    Option.bind (f_X10_of x3 3 q1.2) fun q2 =>
    Option.bind (f_X10_between x3 s0 q2.2) fun q3 =>
    Option.bind (f_X10_sideOf x1 q3.2) fun q4 =>
    Option.bind (f_X10_sideOf x2 q4.2) fun q5 =>
    if q5.1 ≤ q4.1 then
      (Option.bind (f_X10_sideOf x2 q5.2) fun q6 =>
      f_X10_later_100 q6.1 x1 x2 (q1.1 + q2.1) q3.1 q6.2)
    else
      (Option.bind (f_X10_sideOf x1 q5.2) fun q6 =>
      f_X10_later_100 q6.1 x1 x2 (q1.1 + q2.1) q3.1 q6.2)
def f_X10_later_38 (s0 : Int32) (x1 : Int32) (x2 : Int32) (w : Wd) : Option (Int32 × Wd) := if s0 = x1 then
      (f_X10_later_49 x2 x1 x2 s0 w)
    else
      (f_X10_later_49 x1 x1 x2 s0 w)
def f_X10_later (p0 : Int32) (p1 : Int32) (w : Wd) : Option (Int32 × Wd) := Option.bind (f_X10_areTwo p0 p1 w) fun q1 =>
    if q1.1 = 0 then
      (some ((-2), q1.2))
    else
      (Option.bind (f_X10_areJoined p0 p1 q1.2) fun q2 =>
      if q2.1 = 0 then
        (some ((-4), q2.2))
      else
        (Option.bind (f_X10_between p0 p1 q2.2) fun q3 =>
        if q3.1 < 0 then
          (f_X10_later_38 p1 p0 p1 q3.2)
        else
          (f_X10_later_38 p0 p0 p1 q3.2)))
set_option maxRecDepth 100000 in
set_option maxHeartbeats 4000000 in
theorem v_X10_later_305 {d : Nat} (hd9 : 4 ≤ d) {X : bX} (hX : bOk cX10_later 15 RX10 d X) {r : (Int32 × Wd)} (hE : bEnd (some .int) (some (.int r.1)) r.2 X) {k154 : Int32 → Int32 → Int32 → Int32 → Int32 → Int32 → Int32 → Wd → Option (Int32 × Wd)} (hk154 : ∀ (x1 : Int32) (x5 : Int32) (x6 : Int32) (x7 : Int32) (x10 : Int32) (x11 : Int32) (x12 : Int32) (w : Wd), k154 x1 x5 x6 x7 x10 x11 x12 w = some r → bV X 154 [some (.ref 33), some (.int x1), none, none, none, some (.int x5), some (.int x6), some (.int x7), none, none, some (.int x10), some (.int x11), some (.int x12), none, none] [] w) : ∀ (s0 : Int32) (x1 : Int32) (x5 : Int32) (x6 : Int32) (x7 : Int32) (x10 : Int32) (x11 : Int32) (x12 : Int32) (w : Wd), f_X10_later_305 k154 s0 x1 x5 x6 x7 x10 x11 x12 w = some r → bV X 305 [some (.ref 33), some (.int x1), none, none, none, some (.int x5), some (.int x6), some (.int x7), none, none, some (.int x10), some (.int x11), some (.int x12), none, none] [.int s0] w := by
  intro s0 x1 x5 x6 x7 x10 x11 x12 w hr
  obtain ⟨d, rfl⟩ : ∃ e, d = e + 1 := ⟨d - 1, by omega⟩
  unfold f_X10_later_305 at hr
  refine V_istore hX dX10_later_305 (Nat.le_of_ble_eq_true rfl) rfl ?_
  refine V_iload hX dX10_later_307 rfl ?_
  refine V_iload hX dX10_later_309 rfl ?_
  refine V_if_eq (tgt := 321) hX dX10_later_311 (by decide) (fun h311 => ?_) (fun h311 => ?_)
  · rw [if_pos h311] at hr
    refine V_iconst hX dX10_later_321 ic_0 ?_
    refine V_ior hX dX10_later_322 ?_
    refine V_istore hX dX10_later_323 (Nat.le_of_ble_eq_true rfl) rfl ?_
    refine V_iinc hX dX10_later_325 rfl (ii_1 _) (Nat.le_of_ble_eq_true rfl) rfl ?_
    refine V_goto (tgt := 154) hX dX10_later_328 (by decide) ?_
    refine V_mask [true, true, false, false, false, true, true, true, false, false, true, true, true, false, false] ?_
    exact hk154 _ _ _ _ _ _ _ _ hr
  · rw [if_neg h311] at hr
    refine V_iconst hX dX10_later_314 ic_1 ?_
    refine V_iload hX dX10_later_315 rfl ?_
    refine V_ishl hX dX10_later_317 ?_
    refine V_goto (tgt := 322) hX dX10_later_318 (by decide) ?_
    refine V_ior hX dX10_later_322 ?_
    refine V_istore hX dX10_later_323 (Nat.le_of_ble_eq_true rfl) rfl ?_
    refine V_iinc hX dX10_later_325 rfl (ii_1 _) (Nat.le_of_ble_eq_true rfl) rfl ?_
    refine V_goto (tgt := 154) hX dX10_later_328 (by decide) ?_
    refine V_mask [true, true, false, false, false, true, true, true, false, false, true, true, true, false, false] ?_
    exact hk154 _ _ _ _ _ _ _ _ hr
set_option maxRecDepth 100000 in
set_option maxHeartbeats 4000000 in
theorem v_X10_later_304 {d : Nat} (hd9 : 4 ≤ d) {X : bX} (hX : bOk cX10_later 15 RX10 d X) {r : (Int32 × Wd)} (hE : bEnd (some .int) (some (.int r.1)) r.2 X) {k154 : Int32 → Int32 → Int32 → Int32 → Int32 → Int32 → Int32 → Wd → Option (Int32 × Wd)} (hk154 : ∀ (x1 : Int32) (x5 : Int32) (x6 : Int32) (x7 : Int32) (x10 : Int32) (x11 : Int32) (x12 : Int32) (w : Wd), k154 x1 x5 x6 x7 x10 x11 x12 w = some r → bV X 154 [some (.ref 33), some (.int x1), none, none, none, some (.int x5), some (.int x6), some (.int x7), none, none, some (.int x10), some (.int x11), some (.int x12), none, none] [] w) : ∀ (x1 : Int32) (x5 : Int32) (x6 : Int32) (x7 : Int32) (x10 : Int32) (x11 : Int32) (x12 : Int32) (w : Wd), f_X10_later_304 k154 x1 x5 x6 x7 x10 x11 x12 w = some r → bV X 304 [some (.ref 33), some (.int x1), none, none, none, some (.int x5), some (.int x6), some (.int x7), none, none, some (.int x10), some (.int x11), some (.int x12), none, none] [] w := by
  intro x1 x5 x6 x7 x10 x11 x12 w hr
  obtain ⟨d, rfl⟩ : ∃ e, d = e + 1 := ⟨d - 1, by omega⟩
  unfold f_X10_later_304 at hr
  refine V_iconst hX dX10_later_304 ic_0 ?_
  refine V_mask [true, true, false, false, false, true, true, true, false, false, true, true, true, false, false] ?_
  exact v_X10_later_305 hd9 hX hE hk154 _ _ _ _ _ _ _ _ _ hr
set_option maxRecDepth 100000 in
set_option maxHeartbeats 4000000 in
theorem v_X10_later_248 {d : Nat} (hd9 : 4 ≤ d) {X : bX} (hX : bOk cX10_later 15 RX10 d X) {r : (Int32 × Wd)} (hE : bEnd (some .int) (some (.int r.1)) r.2 X) {k154 : Int32 → Int32 → Int32 → Int32 → Int32 → Int32 → Int32 → Wd → Option (Int32 × Wd)} (hk154 : ∀ (x1 : Int32) (x5 : Int32) (x6 : Int32) (x7 : Int32) (x10 : Int32) (x11 : Int32) (x12 : Int32) (w : Wd), k154 x1 x5 x6 x7 x10 x11 x12 w = some r → bV X 154 [some (.ref 33), some (.int x1), none, none, none, some (.int x5), some (.int x6), some (.int x7), none, none, some (.int x10), some (.int x11), some (.int x12), none, none] [] w) : ∀ (x1 : Int32) (x5 : Int32) (x6 : Int32) (x7 : Int32) (x10 : Int32) (x11 : Int32) (x12 : Int32) (w : Wd), f_X10_later_248 k154 x1 x5 x6 x7 x10 x11 x12 w = some r → bV X 248 [some (.ref 33), some (.int x1), none, none, none, some (.int x5), some (.int x6), some (.int x7), none, none, some (.int x10), some (.int x11), some (.int x12), none, none] [] w := by
  intro x1 x5 x6 x7 x10 x11 x12 w hr
  obtain ⟨d, rfl⟩ : ∃ e, d = e + 1 := ⟨d - 1, by omega⟩
  unfold f_X10_later_248 at hr
  refine V_iconst hX dX10_later_248 ic_0 ?_
  refine V_goto (tgt := 305) hX dX10_later_249 (by decide) ?_
  refine V_mask [true, true, false, false, false, true, true, true, false, false, true, true, true, false, false] ?_
  exact v_X10_later_305 hd9 hX hE hk154 _ _ _ _ _ _ _ _ _ hr
set_option maxRecDepth 100000 in
set_option maxHeartbeats 4000000 in
theorem v_X10_later_189 {d : Nat} (hd9 : 4 ≤ d) {X : bX} (hX : bOk cX10_later 15 RX10 d X) {r : (Int32 × Wd)} (hE : bEnd (some .int) (some (.int r.1)) r.2 X) {k154 : Int32 → Int32 → Int32 → Int32 → Int32 → Int32 → Int32 → Wd → Option (Int32 × Wd)} (hk154 : ∀ (x1 : Int32) (x5 : Int32) (x6 : Int32) (x7 : Int32) (x10 : Int32) (x11 : Int32) (x12 : Int32) (w : Wd), k154 x1 x5 x6 x7 x10 x11 x12 w = some r → bV X 154 [some (.ref 33), some (.int x1), none, none, none, some (.int x5), some (.int x6), some (.int x7), none, none, some (.int x10), some (.int x11), some (.int x12), none, none] [] w) : ∀ (s0 : Int32) (x1 : Int32) (x5 : Int32) (x6 : Int32) (x7 : Int32) (x10 : Int32) (x11 : Int32) (x12 : Int32) (w : Wd), f_X10_later_189 k154 s0 x1 x5 x6 x7 x10 x11 x12 w = some r → bV X 189 [some (.ref 33), some (.int x1), none, none, none, some (.int x5), some (.int x6), some (.int x7), none, none, some (.int x10), some (.int x11), some (.int x12), none, none] [.int s0] w := by
  intro s0 x1 x5 x6 x7 x10 x11 x12 w hr
  obtain ⟨d, rfl⟩ : ∃ e, d = e + 1 := ⟨d - 1, by omega⟩
  unfold f_X10_later_189 at hr
  refine V_istore hX dX10_later_189 (Nat.le_of_ble_eq_true rfl) rfl ?_
  refine V_iload hX dX10_later_191 rfl ?_
  refine V_if_eq (tgt := 252) hX dX10_later_193 (by decide) (fun h193 => ?_) (fun h193 => ?_)
  · rw [if_pos h193] at hr
    refine V_aload_n hX dX10_later_252 rfl rfl ?_
    refine G_RX10_16 hX dX10_later_253 ?_
    refine V_iload hX dX10_later_256 rfl ?_
    obtain ⟨hn258, hr⟩ := ifn hr
    refine V_iald hX (Nat.le_of_ble_eq_true rfl) lay_36 (inB_in hn258) dX10_later_258 ?_
    refine V_aload_n hX dX10_later_259 rfl rfl ?_
    refine G_RX10_22 hX dX10_later_260 ?_
    refine V_iload hX dX10_later_263 rfl ?_
    obtain ⟨hn265, hr⟩ := ifn hr
    refine V_iald hX (Nat.le_of_ble_eq_true rfl) lay_38 (inB_in hn265) dX10_later_265 ?_
    refine V_iload hX dX10_later_266 rfl ?_
    refine V_iload hX dX10_later_268 rfl ?_
    obtain ⟨q1, hq1, hr⟩ := bnd hr
    refine C_RX10_253 hX (c_X10_meets (by omega) hq1) (Nat.le_of_ble_eq_true rfl) dX10_later_270 ?_
    refine V_if_eq (tgt := 304) hX dX10_later_273 (by decide) (fun h273 => ?_) (fun h273 => ?_)
    · rw [if_pos h273] at hr
      refine V_mask [true, true, false, false, false, true, true, true, false, false, true, true, true, false, false] ?_
      exact v_X10_later_304 hd9 hX hE hk154 _ _ _ _ _ _ _ _ hr
    · rw [if_neg h273] at hr
      refine V_aload_n hX dX10_later_276 rfl rfl ?_
      refine G_RX10_13 hX dX10_later_277 ?_
      refine V_iload hX dX10_later_280 rfl ?_
      obtain ⟨hn282, hr⟩ := ifn hr
      refine V_iald hX (Nat.le_of_ble_eq_true rfl) lay_35 (inB_in hn282) dX10_later_282 ?_
      refine V_aload_n hX dX10_later_283 rfl rfl ?_
      refine G_RX10_19 hX dX10_later_284 ?_
      refine V_iload hX dX10_later_287 rfl ?_
      obtain ⟨hn289, hr⟩ := ifn hr
      refine V_iald hX (Nat.le_of_ble_eq_true rfl) lay_37 (inB_in hn289) dX10_later_289 ?_
      refine V_iload hX dX10_later_290 rfl ?_
      refine V_iload hX dX10_later_292 rfl ?_
      obtain ⟨q2, hq2, hr⟩ := bnd hr
      refine C_RX10_253 hX (c_X10_meets (by omega) hq2) (Nat.le_of_ble_eq_true rfl) dX10_later_294 ?_
      refine V_if_eq (tgt := 304) hX dX10_later_297 (by decide) (fun h297 => ?_) (fun h297 => ?_)
      · rw [if_pos h297] at hr
        refine V_mask [true, true, false, false, false, true, true, true, false, false, true, true, true, false, false] ?_
        exact v_X10_later_304 hd9 hX hE hk154 _ _ _ _ _ _ _ _ hr
      · rw [if_neg h297] at hr
        refine V_iconst hX dX10_later_300 ic_1 ?_
        refine V_goto (tgt := 305) hX dX10_later_301 (by decide) ?_
        refine V_mask [true, true, false, false, false, true, true, true, false, false, true, true, true, false, false] ?_
        exact v_X10_later_305 hd9 hX hE hk154 _ _ _ _ _ _ _ _ _ hr
  · rw [if_neg h193] at hr
    refine V_aload_n hX dX10_later_196 rfl rfl ?_
    refine G_RX10_13 hX dX10_later_197 ?_
    refine V_iload hX dX10_later_200 rfl ?_
    obtain ⟨hn202, hr⟩ := ifn hr
    refine V_iald hX (Nat.le_of_ble_eq_true rfl) lay_35 (inB_in hn202) dX10_later_202 ?_
    refine V_aload_n hX dX10_later_203 rfl rfl ?_
    refine G_RX10_19 hX dX10_later_204 ?_
    refine V_iload hX dX10_later_207 rfl ?_
    obtain ⟨hn209, hr⟩ := ifn hr
    refine V_iald hX (Nat.le_of_ble_eq_true rfl) lay_37 (inB_in hn209) dX10_later_209 ?_
    refine V_iload hX dX10_later_210 rfl ?_
    refine V_iload hX dX10_later_212 rfl ?_
    obtain ⟨q1, hq1, hr⟩ := bnd hr
    refine C_RX10_253 hX (c_X10_meets (by omega) hq1) (Nat.le_of_ble_eq_true rfl) dX10_later_214 ?_
    refine V_if_eq (tgt := 248) hX dX10_later_217 (by decide) (fun h217 => ?_) (fun h217 => ?_)
    · rw [if_pos h217] at hr
      refine V_mask [true, true, false, false, false, true, true, true, false, false, true, true, true, false, false] ?_
      exact v_X10_later_248 hd9 hX hE hk154 _ _ _ _ _ _ _ _ hr
    · rw [if_neg h217] at hr
      refine V_aload_n hX dX10_later_220 rfl rfl ?_
      refine G_RX10_16 hX dX10_later_221 ?_
      refine V_iload hX dX10_later_224 rfl ?_
      obtain ⟨hn226, hr⟩ := ifn hr
      refine V_iald hX (Nat.le_of_ble_eq_true rfl) lay_36 (inB_in hn226) dX10_later_226 ?_
      refine V_aload_n hX dX10_later_227 rfl rfl ?_
      refine G_RX10_22 hX dX10_later_228 ?_
      refine V_iload hX dX10_later_231 rfl ?_
      obtain ⟨hn233, hr⟩ := ifn hr
      refine V_iald hX (Nat.le_of_ble_eq_true rfl) lay_38 (inB_in hn233) dX10_later_233 ?_
      refine V_iload hX dX10_later_234 rfl ?_
      refine V_iload hX dX10_later_236 rfl ?_
      obtain ⟨q2, hq2, hr⟩ := bnd hr
      refine C_RX10_253 hX (c_X10_meets (by omega) hq2) (Nat.le_of_ble_eq_true rfl) dX10_later_238 ?_
      refine V_if_eq (tgt := 248) hX dX10_later_241 (by decide) (fun h241 => ?_) (fun h241 => ?_)
      · rw [if_pos h241] at hr
        refine V_mask [true, true, false, false, false, true, true, true, false, false, true, true, true, false, false] ?_
        exact v_X10_later_248 hd9 hX hE hk154 _ _ _ _ _ _ _ _ hr
      · rw [if_neg h241] at hr
        refine V_iconst hX dX10_later_244 ic_1 ?_
        refine V_goto (tgt := 305) hX dX10_later_245 (by decide) ?_
        refine V_mask [true, true, false, false, false, true, true, true, false, false, true, true, true, false, false] ?_
        exact v_X10_later_305 hd9 hX hE hk154 _ _ _ _ _ _ _ _ _ hr
set_option maxRecDepth 100000 in
set_option maxHeartbeats 4000000 in
theorem v_X10_later_154 {d : Nat} (hd9 : 4 ≤ d) {X : bX} (hX : bOk cX10_later 15 RX10 d X) {r : (Int32 × Wd)} (hE : bEnd (some .int) (some (.int r.1)) r.2 X) : ∀ (n : Nat) (x1 : Int32) (x5 : Int32) (x6 : Int32) (x7 : Int32) (x10 : Int32) (x11 : Int32) (x12 : Int32) (w : Wd), f_X10_later_154 n x1 x5 x6 x7 x10 x11 x12 w = some r → bV X 154 [some (.ref 33), some (.int x1), none, none, none, some (.int x5), some (.int x6), some (.int x7), none, none, some (.int x10), some (.int x11), some (.int x12), none, none] [] w := by
  obtain ⟨d, rfl⟩ : ∃ e, d = e + 1 := ⟨d - 1, by omega⟩
  intro n
  induction n with
  | zero => intro x1 x5 x6 x7 x10 x11 x12 w hr; exact absurd hr (by simp [f_X10_later_154])
  | succ n ih =>
    intro x1 x5 x6 x7 x10 x11 x12 w hr
    rw [f_X10_later_154] at hr
    refine V_iload hX dX10_later_154 rfl ?_
    refine V_bipush hX dX10_later_156 bp_14 ?_
    refine V_icmp_ge (tgt := 331) hX dX10_later_158 (by decide) (fun h158 => ?_) (fun h158 => ?_)
    · rw [if_pos h158] at hr
      refine V_iload hX dX10_later_331 rfl ?_
      cases hr
      exact V_iret hX hE rfl dX10_later_333
    · rw [if_neg h158] at hr
      refine V_aload_n hX dX10_later_161 rfl rfl ?_
      refine V_iload hX dX10_later_162 rfl ?_
      obtain ⟨q1, hq1, hr⟩ := bnd hr
      refine C_RX10_93 hX (c_X10_isThing (by omega) hq1) (Nat.le_of_ble_eq_true rfl) dX10_later_164 ?_
      refine V_if_eq (tgt := 325) hX dX10_later_167 (by decide) (fun h167 => ?_) (fun h167 => ?_)
      · rw [if_pos h167] at hr
        refine V_iinc hX dX10_later_325 rfl (ii_1 _) (Nat.le_of_ble_eq_true rfl) rfl ?_
        refine V_goto (tgt := 154) hX dX10_later_328 (by decide) ?_
        refine V_mask [true, true, false, false, false, true, true, true, false, false, true, true, true, false, false] ?_
        exact ih _ _ _ _ _ _ _ _ hr
      · rw [if_neg h167] at hr
        refine V_iload hX dX10_later_170 rfl ?_
        refine V_if_le (tgt := 325) hX dX10_later_172 (by decide) (fun h172 => ?_) (fun h172 => ?_)
        · rw [if_pos h172] at hr
          refine V_iinc hX dX10_later_325 rfl (ii_1 _) (Nat.le_of_ble_eq_true rfl) rfl ?_
          refine V_goto (tgt := 154) hX dX10_later_328 (by decide) ?_
          refine V_mask [true, true, false, false, false, true, true, true, false, false, true, true, true, false, false] ?_
          exact ih _ _ _ _ _ _ _ _ hr
        · rw [if_neg h172] at hr
          refine V_aload_n hX dX10_later_175 rfl rfl ?_
          refine V_iload_n hX dX10_later_176 rfl rfl ?_
          refine V_iconst hX dX10_later_177 ic_0 ?_
          obtain ⟨q2, hq2, hr⟩ := bnd hr
          refine C_RX10_184 hX (c_X10_of (by omega) hq2) (Nat.le_of_ble_eq_true rfl) dX10_later_178 ?_
          refine V_if_ne (tgt := 188) hX dX10_later_181 (by decide) (fun h181 => ?_) (fun h181 => ?_)
          · rw [if_neg h181] at hr
            refine V_iconst hX dX10_later_188 ic_0 ?_
            refine V_mask [true, true, false, false, false, true, true, true, false, false, true, true, true, false, false] ?_
            exact v_X10_later_189 hd9 hX hE ih _ _ _ _ _ _ _ _ _ hr
          · rw [if_pos h181] at hr
            refine V_iconst hX dX10_later_184 ic_1 ?_
            refine V_goto (tgt := 189) hX dX10_later_185 (by decide) ?_
            refine V_mask [true, true, false, false, false, true, true, true, false, false, true, true, true, false, false] ?_
            exact v_X10_later_189 hd9 hX hE ih _ _ _ _ _ _ _ _ _ hr
set_option maxRecDepth 100000 in
set_option maxHeartbeats 4000000 in
theorem v_X10_later_142 {d : Nat} (hd9 : 4 ≤ d) {X : bX} (hX : bOk cX10_later 15 RX10 d X) {r : (Int32 × Wd)} (hE : bEnd (some .int) (some (.int r.1)) r.2 X) : ∀ (s0 : Int32) (x1 : Int32) (x5 : Int32) (x6 : Int32) (x7 : Int32) (w : Wd), f_X10_later_142 s0 x1 x5 x6 x7 w = some r → bV X 142 [some (.ref 33), some (.int x1), none, none, none, some (.int x5), some (.int x6), some (.int x7), none, none, none, none, none, none, none] [.int s0] w := by
  intro s0 x1 x5 x6 x7 w hr
  obtain ⟨d, rfl⟩ : ∃ e, d = e + 1 := ⟨d - 1, by omega⟩
  unfold f_X10_later_142 at hr
  refine V_iload hX dX10_later_142 rfl ?_
  refine V_isub hX dX10_later_144 ?_
  refine V_istore hX dX10_later_145 (Nat.le_of_ble_eq_true rfl) rfl ?_
  refine V_iconst hX dX10_later_147 ic_0 ?_
  refine V_istore hX dX10_later_148 (Nat.le_of_ble_eq_true rfl) rfl ?_
  refine V_bipush hX dX10_later_150 bp_8 ?_
  refine V_istore hX dX10_later_152 (Nat.le_of_ble_eq_true rfl) rfl ?_
  refine V_mask [true, true, false, false, false, true, true, true, false, false, true, true, true, false, false] ?_
  exact v_X10_later_154 hd9 hX hE _ _ _ _ _ _ _ _ _ hr
set_option maxRecDepth 100000 in
set_option maxHeartbeats 4000000 in
theorem v_X10_later_100 {d : Nat} (hd9 : 4 ≤ d) {X : bX} (hX : bOk cX10_later 15 RX10 d X) {r : (Int32 × Wd)} (hE : bEnd (some .int) (some (.int r.1)) r.2 X) : ∀ (s0 : Int32) (x1 : Int32) (x2 : Int32) (x5 : Int32) (x6 : Int32) (w : Wd), f_X10_later_100 s0 x1 x2 x5 x6 w = some r → bV X 100 [some (.ref 33), some (.int x1), some (.int x2), none, none, some (.int x5), some (.int x6), none, none, none, none, none, none, none, none] [.int s0] w := by
  intro s0 x1 x2 x5 x6 w hr
  obtain ⟨d, rfl⟩ : ∃ e, d = e + 1 := ⟨d - 1, by omega⟩
  unfold f_X10_later_100 at hr
  refine V_istore hX dX10_later_100 (Nat.le_of_ble_eq_true rfl) rfl ?_
  refine V_aload_n hX dX10_later_102 rfl rfl ?_
  refine V_iload_n hX dX10_later_103 rfl rfl ?_
  obtain ⟨q1, hq1, hr⟩ := bnd hr
  refine C_RX10_238 hX (c_X10_sideOf (by omega) hq1) (Nat.le_of_ble_eq_true rfl) dX10_later_104 ?_
  refine V_aload_n hX dX10_later_107 rfl rfl ?_
  refine V_iload_n hX dX10_later_108 rfl rfl ?_
  obtain ⟨q2, hq2, hr⟩ := bnd hr
  refine C_RX10_241 hX (c_X10_broadOf (by omega) hq2) (Nat.le_of_ble_eq_true rfl) dX10_later_109 ?_
  refine V_iadd hX dX10_later_112 ?_
  refine V_istore hX dX10_later_113 (Nat.le_of_ble_eq_true rfl) rfl ?_
  refine V_aload_n hX dX10_later_115 rfl rfl ?_
  refine V_iload_n hX dX10_later_116 rfl rfl ?_
  obtain ⟨q3, hq3, hr⟩ := bnd hr
  refine C_RX10_238 hX (c_X10_sideOf (by omega) hq3) (Nat.le_of_ble_eq_true rfl) dX10_later_117 ?_
  refine V_aload_n hX dX10_later_120 rfl rfl ?_
  refine V_iload_n hX dX10_later_121 rfl rfl ?_
  obtain ⟨q4, hq4, hr⟩ := bnd hr
  refine C_RX10_241 hX (c_X10_broadOf (by omega) hq4) (Nat.le_of_ble_eq_true rfl) dX10_later_122 ?_
  refine V_iadd hX dX10_later_125 ?_
  refine V_istore hX dX10_later_126 (Nat.le_of_ble_eq_true rfl) rfl ?_
  refine V_iload hX dX10_later_128 rfl ?_
  refine V_iload hX dX10_later_130 rfl ?_
  refine V_icmp_le (tgt := 140) hX dX10_later_132 (by decide) (fun h132 => ?_) (fun h132 => ?_)
  · rw [if_pos h132] at hr
    refine V_iload hX dX10_later_140 rfl ?_
    refine V_mask [true, true, false, false, false, true, true, true, false, false, false, false, false, false, false] ?_
    exact v_X10_later_142 hd9 hX hE _ _ _ _ _ _ hr
  · rw [if_neg h132] at hr
    refine V_iload hX dX10_later_135 rfl ?_
    refine V_goto (tgt := 142) hX dX10_later_137 (by decide) ?_
    refine V_mask [true, true, false, false, false, true, true, true, false, false, false, false, false, false, false] ?_
    exact v_X10_later_142 hd9 hX hE _ _ _ _ _ _ hr
set_option maxRecDepth 100000 in
set_option maxHeartbeats 4000000 in
theorem v_X10_later_49 {d : Nat} (hd9 : 4 ≤ d) {X : bX} (hX : bOk cX10_later 15 RX10 d X) {r : (Int32 × Wd)} (hE : bEnd (some .int) (some (.int r.1)) r.2 X) : ∀ (s0 : Int32) (x1 : Int32) (x2 : Int32) (x3 : Int32) (w : Wd), f_X10_later_49 s0 x1 x2 x3 w = some r → bV X 49 [some (.ref 33), some (.int x1), some (.int x2), some (.int x3), none, none, none, none, none, none, none, none, none, none, none] [.int s0] w := by
  intro s0 x1 x2 x3 w hr
  obtain ⟨d, rfl⟩ : ∃ e, d = e + 1 := ⟨d - 1, by omega⟩
  unfold f_X10_later_49 at hr
  refine V_istore hX dX10_later_49 (Nat.le_of_ble_eq_true rfl) rfl ?_
  refine V_aload_n hX dX10_later_51 rfl rfl ?_
  refine V_iload_n hX dX10_later_52 rfl rfl ?_
  obtain ⟨q1, hq1, hr⟩ := bnd hr
  refine C_RX10_232 hX (c_X10_beginOf (by omega) hq1) (Nat.le_of_ble_eq_true rfl) dX10_later_53 ?_
  refine V_aload_n hX dX10_later_56 rfl rfl ?_
  refine V_iload_n hX dX10_later_57 rfl rfl ?_
  refine V_iconst hX dX10_later_58 ic_3 ?_
  obtain ⟨q2, hq2, hr⟩ := bnd hr
  refine C_RX10_184 hX (c_X10_of (by omega) hq2) (Nat.le_of_ble_eq_true rfl) dX10_later_59 ?_
  refine V_iadd hX dX10_later_62 ?_
  refine V_istore hX dX10_later_63 (Nat.le_of_ble_eq_true rfl) rfl ?_
  refine V_aload_n hX dX10_later_65 rfl rfl ?_
  refine V_iload_n hX dX10_later_66 rfl rfl ?_
  refine V_iload hX dX10_later_67 rfl ?_
  obtain ⟨q3, hq3, hr⟩ := bnd hr
  refine C_RX10_235 hX (c_X10_between (by omega) hq3) (Nat.le_of_ble_eq_true rfl) dX10_later_69 ?_
  refine V_istore hX dX10_later_72 (Nat.le_of_ble_eq_true rfl) rfl ?_
  refine V_aload_n hX dX10_later_74 rfl rfl ?_
  refine V_iload_n hX dX10_later_75 rfl rfl ?_
  obtain ⟨q4, hq4, hr⟩ := bnd hr
  refine C_RX10_238 hX (c_X10_sideOf (by omega) hq4) (Nat.le_of_ble_eq_true rfl) dX10_later_76 ?_
  refine V_aload_n hX dX10_later_79 rfl rfl ?_
  refine V_iload_n hX dX10_later_80 rfl rfl ?_
  obtain ⟨q5, hq5, hr⟩ := bnd hr
  refine C_RX10_238 hX (c_X10_sideOf (by omega) hq5) (Nat.le_of_ble_eq_true rfl) dX10_later_81 ?_
  refine V_icmp_ge (tgt := 95) hX dX10_later_84 (by decide) (fun h84 => ?_) (fun h84 => ?_)
  · rw [if_pos h84] at hr
    refine V_aload_n hX dX10_later_95 rfl rfl ?_
    refine V_iload_n hX dX10_later_96 rfl rfl ?_
    obtain ⟨q6, hq6, hr⟩ := bnd hr
    refine C_RX10_238 hX (c_X10_sideOf (by omega) hq6) (Nat.le_of_ble_eq_true rfl) dX10_later_97 ?_
    refine V_mask [true, true, true, false, false, true, true, false, false, false, false, false, false, false, false] ?_
    exact v_X10_later_100 hd9 hX hE _ _ _ _ _ _ hr
  · rw [if_neg h84] at hr
    refine V_aload_n hX dX10_later_87 rfl rfl ?_
    refine V_iload_n hX dX10_later_88 rfl rfl ?_
    obtain ⟨q6, hq6, hr⟩ := bnd hr
    refine C_RX10_238 hX (c_X10_sideOf (by omega) hq6) (Nat.le_of_ble_eq_true rfl) dX10_later_89 ?_
    refine V_goto (tgt := 100) hX dX10_later_92 (by decide) ?_
    refine V_mask [true, true, true, false, false, true, true, false, false, false, false, false, false, false, false] ?_
    exact v_X10_later_100 hd9 hX hE _ _ _ _ _ _ hr
set_option maxRecDepth 100000 in
set_option maxHeartbeats 4000000 in
theorem v_X10_later_38 {d : Nat} (hd9 : 4 ≤ d) {X : bX} (hX : bOk cX10_later 15 RX10 d X) {r : (Int32 × Wd)} (hE : bEnd (some .int) (some (.int r.1)) r.2 X) : ∀ (s0 : Int32) (x1 : Int32) (x2 : Int32) (w : Wd), f_X10_later_38 s0 x1 x2 w = some r → bV X 38 [some (.ref 33), some (.int x1), some (.int x2), none, none, none, none, none, none, none, none, none, none, none, none] [.int s0] w := by
  intro s0 x1 x2 w hr
  obtain ⟨d, rfl⟩ : ∃ e, d = e + 1 := ⟨d - 1, by omega⟩
  unfold f_X10_later_38 at hr
  refine V_istore_n hX dX10_later_38 rfl (Nat.le_of_ble_eq_true rfl) rfl ?_
  refine V_iload_n hX dX10_later_39 rfl rfl ?_
  refine V_iload_n hX dX10_later_40 rfl rfl ?_
  refine V_icmp_ne (tgt := 48) hX dX10_later_41 (by decide) (fun h41 => ?_) (fun h41 => ?_)
  · rw [if_neg h41] at hr
    refine V_iload_n hX dX10_later_48 rfl rfl ?_
    refine V_mask [true, true, true, true, false, false, false, false, false, false, false, false, false, false, false] ?_
    exact v_X10_later_49 hd9 hX hE _ _ _ _ _ hr
  · rw [if_pos h41] at hr
    refine V_iload_n hX dX10_later_44 rfl rfl ?_
    refine V_goto (tgt := 49) hX dX10_later_45 (by decide) ?_
    refine V_mask [true, true, true, true, false, false, false, false, false, false, false, false, false, false, false] ?_
    exact v_X10_later_49 hd9 hX hE _ _ _ _ _ hr
set_option maxRecDepth 100000 in
set_option maxHeartbeats 4000000 in
theorem c_X10_later {d : Nat} (hd9 : 4 ≤ d) {p0 : Int32} {p1 : Int32} {w : Wd} {r : (Int32 × Wd)} (hr : f_X10_later p0 p1 w = some r) : Con d yX10_later cX10_later 15 (some .int) [.ref 33, .int p0, .int p1] w (some (.int r.1)) r.2 := by
  refine Con_of (by decide) (Nat.le_of_ble_eq_true rfl) (fun X hX hE => ?_)
  have hX : bOk cX10_later 15 RX10 d X := hX
  show bV X 0 [some (.ref 33), some (.int p0), some (.int p1), none, none, none, none, none, none, none, none, none, none, none, none] [] w
  obtain ⟨d, rfl⟩ : ∃ e, d = e + 1 := ⟨d - 1, by omega⟩
  unfold f_X10_later at hr
  refine V_aload_n hX dX10_later_0 rfl rfl ?_
  refine V_iload_n hX dX10_later_1 rfl rfl ?_
  refine V_iload_n hX dX10_later_2 rfl rfl ?_
  obtain ⟨q1, hq1, hr⟩ := bnd hr
  refine C_RX10_247 hX (c_X10_areTwo (by omega) hq1) (Nat.le_of_ble_eq_true rfl) dX10_later_3 ?_
  refine V_if_ne (tgt := 12) hX dX10_later_6 (by decide) (fun h6 => ?_) (fun h6 => ?_)
  · rw [if_neg h6] at hr
    refine V_aload_n hX dX10_later_12 rfl rfl ?_
    refine V_iload_n hX dX10_later_13 rfl rfl ?_
    refine V_iload_n hX dX10_later_14 rfl rfl ?_
    obtain ⟨q2, hq2, hr⟩ := bnd hr
    refine C_RX10_250 hX (c_X10_areJoined (by omega) hq2) (Nat.le_of_ble_eq_true rfl) dX10_later_15 ?_
    refine V_if_ne (tgt := 24) hX dX10_later_18 (by decide) (fun h18 => ?_) (fun h18 => ?_)
    · rw [if_neg h18] at hr
      refine V_aload_n hX dX10_later_24 rfl rfl ?_
      refine V_iload_n hX dX10_later_25 rfl rfl ?_
      refine V_iload_n hX dX10_later_26 rfl rfl ?_
      obtain ⟨q3, hq3, hr⟩ := bnd hr
      refine C_RX10_235 hX (c_X10_between (by omega) hq3) (Nat.le_of_ble_eq_true rfl) dX10_later_27 ?_
      refine V_if_lt (tgt := 37) hX dX10_later_30 (by decide) (fun h30 => ?_) (fun h30 => ?_)
      · rw [if_pos h30] at hr
        refine V_iload_n hX dX10_later_37 rfl rfl ?_
        refine V_mask [true, true, true, false, false, false, false, false, false, false, false, false, false, false, false] ?_
        exact v_X10_later_38 hd9 hX hE _ _ _ _ hr
      · rw [if_neg h30] at hr
        refine V_iload_n hX dX10_later_33 rfl rfl ?_
        refine V_goto (tgt := 38) hX dX10_later_34 (by decide) ?_
        refine V_mask [true, true, true, false, false, false, false, false, false, false, false, false, false, false, false] ?_
        exact v_X10_later_38 hd9 hX hE _ _ _ _ hr
    · rw [if_pos h18] at hr
      refine V_bipush hX dX10_later_21 bp_m4 ?_
      cases hr
      exact V_iret hX hE rfl dX10_later_23
  · rw [if_pos h6] at hr
    refine V_bipush hX dX10_later_9 bp_m2 ?_
    cases hr
    exact V_iret hX hE rfl dX10_later_11
def f_X10_divisor_4 : Nat → Int32 → Int32 → Wd → Option (Int32 × Wd)
  | 0, _, _, _ => none
  | n + 1, x2, x3, w => if x3 = 0 then
        (some (x2, w))
      else
        (if x3 = 0 then none else f_X10_divisor_4 n x3 (jrem x2 x3) w)
def f_X10_divisor (p0 : Int32) (p1 : Int32) (w : Wd) : Option (Int32 × Wd) := f_X10_divisor_4 fu p0 p1 w
set_option maxRecDepth 100000 in
set_option maxHeartbeats 4000000 in
theorem v_X10_divisor_4 {d : Nat} (hd9 : 0 ≤ d) {X : bX} (hX : bOk cX10_divisor 5 RX10 d X) {r : (Int32 × Wd)} (hE : bEnd (some .int) (some (.int r.1)) r.2 X) : ∀ (n : Nat) (x2 : Int32) (x3 : Int32) (w : Wd), f_X10_divisor_4 n x2 x3 w = some r → bV X 4 [none, none, some (.int x2), some (.int x3), none] [] w := by
  intro n
  induction n with
  | zero => intro x2 x3 w hr; exact absurd hr (by simp [f_X10_divisor_4])
  | succ n ih =>
    intro x2 x3 w hr
    rw [f_X10_divisor_4] at hr
    refine V_iload_n hX dX10_divisor_4 rfl rfl ?_
    refine V_if_eq (tgt := 21) hX dX10_divisor_5 (by decide) (fun h5 => ?_) (fun h5 => ?_)
    · rw [if_pos h5] at hr
      refine V_iload_n hX dX10_divisor_21 rfl rfl ?_
      cases hr
      exact V_iret hX hE rfl dX10_divisor_22
    · rw [if_neg h5] at hr
      refine V_iload_n hX dX10_divisor_8 rfl rfl ?_
      refine V_iload_n hX dX10_divisor_9 rfl rfl ?_
      obtain ⟨hn10, hr⟩ := ifz hr
      refine V_irem hX dX10_divisor_10 hn10 ?_
      refine V_istore hX dX10_divisor_11 (Nat.le_of_ble_eq_true rfl) rfl ?_
      refine V_iload_n hX dX10_divisor_13 rfl rfl ?_
      refine V_istore_n hX dX10_divisor_14 rfl (Nat.le_of_ble_eq_true rfl) rfl ?_
      refine V_iload hX dX10_divisor_15 rfl ?_
      refine V_istore_n hX dX10_divisor_17 rfl (Nat.le_of_ble_eq_true rfl) rfl ?_
      refine V_goto (tgt := 4) hX dX10_divisor_18 (by decide) ?_
      refine V_mask [false, false, true, true, false] ?_
      exact ih _ _ _ hr
set_option maxRecDepth 100000 in
set_option maxHeartbeats 4000000 in
theorem c_X10_divisor {d : Nat} (hd9 : 0 ≤ d) {p0 : Int32} {p1 : Int32} {w : Wd} {r : (Int32 × Wd)} (hr : f_X10_divisor p0 p1 w = some r) : Con d yX10_divisor cX10_divisor 5 (some .int) [.int p0, .int p1] w (some (.int r.1)) r.2 := by
  refine Con_of (by decide) (Nat.le_of_ble_eq_true rfl) (fun X hX hE => ?_)
  have hX : bOk cX10_divisor 5 RX10 d X := hX
  show bV X 0 [some (.int p0), some (.int p1), none, none, none] [] w
  unfold f_X10_divisor at hr
  refine V_iload_n hX dX10_divisor_0 rfl rfl ?_
  refine V_istore_n hX dX10_divisor_1 rfl (Nat.le_of_ble_eq_true rfl) rfl ?_
  refine V_iload_n hX dX10_divisor_2 rfl rfl ?_
  refine V_istore_n hX dX10_divisor_3 rfl (Nat.le_of_ble_eq_true rfl) rfl ?_
  refine V_mask [false, false, true, true, false] ?_
  exact v_X10_divisor_4 hd9 hX hE _ _ _ _ hr
def f_X10_odds_50 : Nat → Int32 → Int32 → Int32 → Int32 → Wd → Option (Int32 × Wd)
  | 0, _, _, _, _, _ => none
  | n + 1, x3, x4, x5, x6, w => if x4 ≤ x6 then
        (Option.bind (f_X10_divisor x5 x4 w) fun q1 =>
        if x3 = 0 then
          (if q1.1 = 0 then none else some ((x5 / q1.1), q1.2))
        else
          (if q1.1 = 0 then none else some ((x4 / q1.1), q1.2)))
      else
        (Option.bind (f_X10_isOff x6 x4 w) fun q1 =>
        if q1.1 = 0 then
          (f_X10_odds_50 n x3 x4 (x5 + 0) (x6 + 1) q1.2)
        else
          (f_X10_odds_50 n x3 x4 (x5 + 1) (x6 + 1) q1.2))
def f_X10_odds (p0 : Int32) (p1 : Int32) (p2 : Int32) (w : Wd) : Option (Int32 × Wd) := Option.bind (f_X10_areTwo p0 p1 w) fun q1 =>
    if q1.1 = 0 then
      (some ((-2), q1.2))
    else
      (Option.bind (f_X10_in p2 0 1 q1.2) fun q2 =>
      if q2.1 = 0 then
        (some ((-3), q2.2))
      else
        (Option.bind (f_X10_areJoined p0 p1 q2.2) fun q3 =>
        if q3.1 = 0 then
          (some ((-4), q3.2))
        else
          (Option.bind (f_X10_of p0 2 q3.2) fun q4 =>
          f_X10_odds_50 fu p2 q4.1 0 0 q4.2)))
set_option maxRecDepth 100000 in
set_option maxHeartbeats 4000000 in
theorem v_X10_odds_50 {d : Nat} (hd9 : 4 ≤ d) {X : bX} (hX : bOk cX10_odds 7 RX10 d X) {r : (Int32 × Wd)} (hE : bEnd (some .int) (some (.int r.1)) r.2 X) : ∀ (n : Nat) (x3 : Int32) (x4 : Int32) (x5 : Int32) (x6 : Int32) (w : Wd), f_X10_odds_50 n x3 x4 x5 x6 w = some r → bV X 50 [some (.ref 33), none, none, some (.int x3), some (.int x4), some (.int x5), some (.int x6)] [] w := by
  obtain ⟨d, rfl⟩ : ∃ e, d = e + 1 := ⟨d - 1, by omega⟩
  intro n
  induction n with
  | zero => intro x3 x4 x5 x6 w hr; exact absurd hr (by simp [f_X10_odds_50])
  | succ n ih =>
    intro x3 x4 x5 x6 w hr
    rw [f_X10_odds_50] at hr
    refine V_iload hX dX10_odds_50 rfl ?_
    refine V_iload hX dX10_odds_52 rfl ?_
    refine V_icmp_ge (tgt := 84) hX dX10_odds_54 (by decide) (fun h54 => ?_) (fun h54 => ?_)
    · rw [if_pos h54] at hr
      refine V_iload hX dX10_odds_84 rfl ?_
      refine V_iload hX dX10_odds_86 rfl ?_
      obtain ⟨q1, hq1, hr⟩ := bnd hr
      refine C_RX10_257 hX (c_X10_divisor (by omega) hq1) (Nat.le_of_ble_eq_true rfl) dX10_odds_88 ?_
      refine V_istore hX dX10_odds_91 (Nat.le_of_ble_eq_true rfl) rfl ?_
      refine V_iload_n hX dX10_odds_93 rfl rfl ?_
      refine V_if_ne (tgt := 105) hX dX10_odds_94 (by decide) (fun h94 => ?_) (fun h94 => ?_)
      · rw [if_neg h94] at hr
        refine V_iload hX dX10_odds_105 rfl ?_
        refine V_iload hX dX10_odds_107 rfl ?_
        obtain ⟨hn109, hr⟩ := ifz hr
        refine V_idiv hX dX10_odds_109 hn109 ?_
        cases hr
        exact V_iret hX hE rfl dX10_odds_110
      · rw [if_pos h94] at hr
        refine V_iload hX dX10_odds_97 rfl ?_
        refine V_iload hX dX10_odds_99 rfl ?_
        obtain ⟨hn101, hr⟩ := ifz hr
        refine V_idiv hX dX10_odds_101 hn101 ?_
        refine V_goto (tgt := 110) hX dX10_odds_102 (by decide) ?_
        cases hr
        exact V_iret hX hE rfl dX10_odds_110
    · rw [if_neg h54] at hr
      refine V_iload hX dX10_odds_57 rfl ?_
      refine V_aload_n hX dX10_odds_59 rfl rfl ?_
      refine V_iload hX dX10_odds_60 rfl ?_
      refine V_iload hX dX10_odds_62 rfl ?_
      obtain ⟨q1, hq1, hr⟩ := bnd hr
      refine C_RX10_244 hX (c_X10_isOff (by omega) hq1) (Nat.le_of_ble_eq_true rfl) dX10_odds_64 ?_
      refine V_if_eq (tgt := 74) hX dX10_odds_67 (by decide) (fun h67 => ?_) (fun h67 => ?_)
      · rw [if_pos h67] at hr
        refine V_iconst hX dX10_odds_74 ic_0 ?_
        refine V_iadd hX dX10_odds_75 ?_
        refine V_istore hX dX10_odds_76 (Nat.le_of_ble_eq_true rfl) rfl ?_
        refine V_iinc hX dX10_odds_78 rfl (ii_1 _) (Nat.le_of_ble_eq_true rfl) rfl ?_
        refine V_goto (tgt := 50) hX dX10_odds_81 (by decide) ?_
        refine V_mask [true, false, false, true, true, true, true] ?_
        exact ih _ _ _ _ _ hr
      · rw [if_neg h67] at hr
        refine V_iconst hX dX10_odds_70 ic_1 ?_
        refine V_goto (tgt := 75) hX dX10_odds_71 (by decide) ?_
        refine V_iadd hX dX10_odds_75 ?_
        refine V_istore hX dX10_odds_76 (Nat.le_of_ble_eq_true rfl) rfl ?_
        refine V_iinc hX dX10_odds_78 rfl (ii_1 _) (Nat.le_of_ble_eq_true rfl) rfl ?_
        refine V_goto (tgt := 50) hX dX10_odds_81 (by decide) ?_
        refine V_mask [true, false, false, true, true, true, true] ?_
        exact ih _ _ _ _ _ hr
set_option maxRecDepth 100000 in
set_option maxHeartbeats 4000000 in
theorem c_X10_odds {d : Nat} (hd9 : 4 ≤ d) {p0 : Int32} {p1 : Int32} {p2 : Int32} {w : Wd} {r : (Int32 × Wd)} (hr : f_X10_odds p0 p1 p2 w = some r) : Con d yX10_odds cX10_odds 7 (some .int) [.ref 33, .int p0, .int p1, .int p2] w (some (.int r.1)) r.2 := by
  refine Con_of (by decide) (Nat.le_of_ble_eq_true rfl) (fun X hX hE => ?_)
  have hX : bOk cX10_odds 7 RX10 d X := hX
  show bV X 0 [some (.ref 33), some (.int p0), some (.int p1), some (.int p2), none, none, none] [] w
  obtain ⟨d, rfl⟩ : ∃ e, d = e + 1 := ⟨d - 1, by omega⟩
  unfold f_X10_odds at hr
  refine V_aload_n hX dX10_odds_0 rfl rfl ?_
  refine V_iload_n hX dX10_odds_1 rfl rfl ?_
  refine V_iload_n hX dX10_odds_2 rfl rfl ?_
  obtain ⟨q1, hq1, hr⟩ := bnd hr
  refine C_RX10_247 hX (c_X10_areTwo (by omega) hq1) (Nat.le_of_ble_eq_true rfl) dX10_odds_3 ?_
  refine V_if_ne (tgt := 12) hX dX10_odds_6 (by decide) (fun h6 => ?_) (fun h6 => ?_)
  · rw [if_neg h6] at hr
    refine V_iload_n hX dX10_odds_12 rfl rfl ?_
    refine V_iconst hX dX10_odds_13 ic_0 ?_
    refine V_iconst hX dX10_odds_14 ic_1 ?_
    obtain ⟨q2, hq2, hr⟩ := bnd hr
    refine C_RX10_86 hX (c_X10_in (by omega) hq2) (Nat.le_of_ble_eq_true rfl) dX10_odds_15 ?_
    refine V_if_ne (tgt := 24) hX dX10_odds_18 (by decide) (fun h18 => ?_) (fun h18 => ?_)
    · rw [if_neg h18] at hr
      refine V_aload_n hX dX10_odds_24 rfl rfl ?_
      refine V_iload_n hX dX10_odds_25 rfl rfl ?_
      refine V_iload_n hX dX10_odds_26 rfl rfl ?_
      obtain ⟨q3, hq3, hr⟩ := bnd hr
      refine C_RX10_250 hX (c_X10_areJoined (by omega) hq3) (Nat.le_of_ble_eq_true rfl) dX10_odds_27 ?_
      refine V_if_ne (tgt := 36) hX dX10_odds_30 (by decide) (fun h30 => ?_) (fun h30 => ?_)
      · rw [if_neg h30] at hr
        refine V_aload_n hX dX10_odds_36 rfl rfl ?_
        refine V_iload_n hX dX10_odds_37 rfl rfl ?_
        refine V_iconst hX dX10_odds_38 ic_2 ?_
        obtain ⟨q4, hq4, hr⟩ := bnd hr
        refine C_RX10_184 hX (c_X10_of (by omega) hq4) (Nat.le_of_ble_eq_true rfl) dX10_odds_39 ?_
        refine V_istore hX dX10_odds_42 (Nat.le_of_ble_eq_true rfl) rfl ?_
        refine V_iconst hX dX10_odds_44 ic_0 ?_
        refine V_istore hX dX10_odds_45 (Nat.le_of_ble_eq_true rfl) rfl ?_
        refine V_iconst hX dX10_odds_47 ic_0 ?_
        refine V_istore hX dX10_odds_48 (Nat.le_of_ble_eq_true rfl) rfl ?_
        refine V_mask [true, false, false, true, true, true, true] ?_
        exact v_X10_odds_50 hd9 hX hE _ _ _ _ _ _ hr
      · rw [if_pos h30] at hr
        refine V_bipush hX dX10_odds_33 bp_m4 ?_
        cases hr
        exact V_iret hX hE rfl dX10_odds_35
    · rw [if_pos h18] at hr
      refine V_bipush hX dX10_odds_21 bp_m3 ?_
      cases hr
      exact V_iret hX hE rfl dX10_odds_23
  · rw [if_pos h6] at hr
    refine V_bipush hX dX10_odds_9 bp_m2 ?_
    cases hr
    exact V_iret hX hE rfl dX10_odds_11
def f_X10_fieldOf_76 (k6 : Int32 → Int32 → Wd → Option (Int32 × Wd)) (k15 : Int32 → Int32 → Int32 → Wd → Option (Int32 × Wd)) (s0 : Int32) (x3 : Int32) (x4 : Int32) (w : Wd) : Option (Int32 × Wd) := k15 (s0 ||| 0) x3 (x4 + 1) w
def f_X10_fieldOf_15 (k6 : Int32 → Int32 → Wd → Option (Int32 × Wd)) : Nat → Int32 → Int32 → Int32 → Wd → Option (Int32 × Wd)
  | 0, _, _, _, _ => none
  | n + 1, x2, x3, x4, w => if 64 ≤ x4 then
        (k6 x2 (x3 + 1) w)
      else
        (if ((jshr x2 (x4 / 8)) &&& 1) = 1 then
          (Option.bind (f_X10_areTwo (x4 / 8) (jrem x4 8) w) fun q1 =>
          if q1.1 = 0 then
            (f_X10_fieldOf_76 k6 (f_X10_fieldOf_15 k6 n) x2 x3 x4 q1.2)
          else
            (Option.bind (f_X10_areJoined (x4 / 8) (jrem x4 8) q1.2) fun q2 =>
            if q2.1 = 0 then
              (f_X10_fieldOf_76 k6 (f_X10_fieldOf_15 k6 n) x2 x3 x4 q2.2)
            else
              (f_X10_fieldOf_15 k6 n (x2 ||| (jshl 1 (jrem x4 8))) x3 (x4 + 1) q2.2)))
        else
          (f_X10_fieldOf_76 k6 (f_X10_fieldOf_15 k6 n) x2 x3 x4 w))
def f_X10_fieldOf_6 : Nat → Int32 → Int32 → Wd → Option (Int32 × Wd)
  | 0, _, _, _ => none
  | n + 1, x2, x3, w => if 8 ≤ x3 then
        (some (x2, w))
      else
        (f_X10_fieldOf_15 (f_X10_fieldOf_6 n) fu x2 x3 0 w)
def f_X10_fieldOf (p0 : Int32) (w : Wd) : Option (Int32 × Wd) := f_X10_fieldOf_6 fu (jshl 1 p0) 0 w
set_option maxRecDepth 100000 in
set_option maxHeartbeats 4000000 in
theorem v_X10_fieldOf_76 {d : Nat} (hd9 : 4 ≤ d) {X : bX} (hX : bOk cX10_fieldOf 7 RX10 d X) {r : (Int32 × Wd)} (hE : bEnd (some .int) (some (.int r.1)) r.2 X) {k6 : Int32 → Int32 → Wd → Option (Int32 × Wd)} {k15 : Int32 → Int32 → Int32 → Wd → Option (Int32 × Wd)} (hk6 : ∀ (x2 : Int32) (x3 : Int32) (w : Wd), k6 x2 x3 w = some r → bV X 6 [some (.ref 33), none, some (.int x2), some (.int x3), none, none, none] [] w) (hk15 : ∀ (x2 : Int32) (x3 : Int32) (x4 : Int32) (w : Wd), k15 x2 x3 x4 w = some r → bV X 15 [some (.ref 33), none, some (.int x2), some (.int x3), some (.int x4), none, none] [] w) : ∀ (s0 : Int32) (x3 : Int32) (x4 : Int32) (w : Wd), f_X10_fieldOf_76 k6 k15 s0 x3 x4 w = some r → bV X 76 [some (.ref 33), none, none, some (.int x3), some (.int x4), none, none] [.int s0] w := by
  intro s0 x3 x4 w hr
  obtain ⟨d, rfl⟩ : ∃ e, d = e + 1 := ⟨d - 1, by omega⟩
  unfold f_X10_fieldOf_76 at hr
  refine V_iconst hX dX10_fieldOf_76 ic_0 ?_
  refine V_ior hX dX10_fieldOf_77 ?_
  refine V_istore_n hX dX10_fieldOf_78 rfl (Nat.le_of_ble_eq_true rfl) rfl ?_
  refine V_iinc hX dX10_fieldOf_79 rfl (ii_1 _) (Nat.le_of_ble_eq_true rfl) rfl ?_
  refine V_goto (tgt := 15) hX dX10_fieldOf_82 (by decide) ?_
  refine V_mask [true, false, true, true, true, false, false] ?_
  exact hk15 _ _ _ _ hr
set_option maxRecDepth 100000 in
set_option maxHeartbeats 4000000 in
theorem v_X10_fieldOf_15 {d : Nat} (hd9 : 4 ≤ d) {X : bX} (hX : bOk cX10_fieldOf 7 RX10 d X) {r : (Int32 × Wd)} (hE : bEnd (some .int) (some (.int r.1)) r.2 X) {k6 : Int32 → Int32 → Wd → Option (Int32 × Wd)} (hk6 : ∀ (x2 : Int32) (x3 : Int32) (w : Wd), k6 x2 x3 w = some r → bV X 6 [some (.ref 33), none, some (.int x2), some (.int x3), none, none, none] [] w) : ∀ (n : Nat) (x2 : Int32) (x3 : Int32) (x4 : Int32) (w : Wd), f_X10_fieldOf_15 k6 n x2 x3 x4 w = some r → bV X 15 [some (.ref 33), none, some (.int x2), some (.int x3), some (.int x4), none, none] [] w := by
  obtain ⟨d, rfl⟩ : ∃ e, d = e + 1 := ⟨d - 1, by omega⟩
  intro n
  induction n with
  | zero => intro x2 x3 x4 w hr; exact absurd hr (by simp [f_X10_fieldOf_15])
  | succ n ih =>
    intro x2 x3 x4 w hr
    rw [f_X10_fieldOf_15] at hr
    refine V_iload hX dX10_fieldOf_15 rfl ?_
    refine V_bipush hX dX10_fieldOf_17 bp_64 ?_
    refine V_icmp_ge (tgt := 85) hX dX10_fieldOf_19 (by decide) (fun h19 => ?_) (fun h19 => ?_)
    · rw [if_pos h19] at hr
      refine V_iinc hX dX10_fieldOf_85 rfl (ii_1 _) (Nat.le_of_ble_eq_true rfl) rfl ?_
      refine V_goto (tgt := 6) hX dX10_fieldOf_88 (by decide) ?_
      refine V_mask [true, false, true, true, false, false, false] ?_
      exact hk6 _ _ _ hr
    · rw [if_neg h19] at hr
      refine V_iload hX dX10_fieldOf_22 rfl ?_
      refine V_bipush hX dX10_fieldOf_24 bp_8 ?_
      refine V_idiv hX dX10_fieldOf_26 (by decide) ?_
      refine V_istore hX dX10_fieldOf_27 (Nat.le_of_ble_eq_true rfl) rfl ?_
      refine V_iload hX dX10_fieldOf_29 rfl ?_
      refine V_bipush hX dX10_fieldOf_31 bp_8 ?_
      refine V_irem hX dX10_fieldOf_33 (by decide) ?_
      refine V_istore hX dX10_fieldOf_34 (Nat.le_of_ble_eq_true rfl) rfl ?_
      refine V_iload_n hX dX10_fieldOf_36 rfl rfl ?_
      refine V_iload_n hX dX10_fieldOf_37 rfl rfl ?_
      refine V_iload hX dX10_fieldOf_38 rfl ?_
      refine V_ishr hX dX10_fieldOf_40 ?_
      refine V_iconst hX dX10_fieldOf_41 ic_1 ?_
      refine V_iand hX dX10_fieldOf_42 ?_
      refine V_iconst hX dX10_fieldOf_43 ic_1 ?_
      refine V_icmp_ne (tgt := 76) hX dX10_fieldOf_44 (by decide) (fun h44 => ?_) (fun h44 => ?_)
      · rw [if_neg h44] at hr
        refine V_mask [true, false, false, true, true, false, false] ?_
        exact v_X10_fieldOf_76 hd9 hX hE hk6 ih _ _ _ _ hr
      · rw [if_pos h44] at hr
        refine V_aload_n hX dX10_fieldOf_47 rfl rfl ?_
        refine V_iload hX dX10_fieldOf_48 rfl ?_
        refine V_iload hX dX10_fieldOf_50 rfl ?_
        obtain ⟨q1, hq1, hr⟩ := bnd hr
        refine C_RX10_247 hX (c_X10_areTwo (by omega) hq1) (Nat.le_of_ble_eq_true rfl) dX10_fieldOf_52 ?_
        refine V_if_eq (tgt := 76) hX dX10_fieldOf_55 (by decide) (fun h55 => ?_) (fun h55 => ?_)
        · rw [if_pos h55] at hr
          refine V_mask [true, false, false, true, true, false, false] ?_
          exact v_X10_fieldOf_76 hd9 hX hE hk6 ih _ _ _ _ hr
        · rw [if_neg h55] at hr
          refine V_aload_n hX dX10_fieldOf_58 rfl rfl ?_
          refine V_iload hX dX10_fieldOf_59 rfl ?_
          refine V_iload hX dX10_fieldOf_61 rfl ?_
          obtain ⟨q2, hq2, hr⟩ := bnd hr
          refine C_RX10_250 hX (c_X10_areJoined (by omega) hq2) (Nat.le_of_ble_eq_true rfl) dX10_fieldOf_63 ?_
          refine V_if_eq (tgt := 76) hX dX10_fieldOf_66 (by decide) (fun h66 => ?_) (fun h66 => ?_)
          · rw [if_pos h66] at hr
            refine V_mask [true, false, false, true, true, false, false] ?_
            exact v_X10_fieldOf_76 hd9 hX hE hk6 ih _ _ _ _ hr
          · rw [if_neg h66] at hr
            refine V_iconst hX dX10_fieldOf_69 ic_1 ?_
            refine V_iload hX dX10_fieldOf_70 rfl ?_
            refine V_ishl hX dX10_fieldOf_72 ?_
            refine V_goto (tgt := 77) hX dX10_fieldOf_73 (by decide) ?_
            refine V_ior hX dX10_fieldOf_77 ?_
            refine V_istore_n hX dX10_fieldOf_78 rfl (Nat.le_of_ble_eq_true rfl) rfl ?_
            refine V_iinc hX dX10_fieldOf_79 rfl (ii_1 _) (Nat.le_of_ble_eq_true rfl) rfl ?_
            refine V_goto (tgt := 15) hX dX10_fieldOf_82 (by decide) ?_
            refine V_mask [true, false, true, true, true, false, false] ?_
            exact ih _ _ _ _ hr
set_option maxRecDepth 100000 in
set_option maxHeartbeats 4000000 in
theorem v_X10_fieldOf_6 {d : Nat} (hd9 : 4 ≤ d) {X : bX} (hX : bOk cX10_fieldOf 7 RX10 d X) {r : (Int32 × Wd)} (hE : bEnd (some .int) (some (.int r.1)) r.2 X) : ∀ (n : Nat) (x2 : Int32) (x3 : Int32) (w : Wd), f_X10_fieldOf_6 n x2 x3 w = some r → bV X 6 [some (.ref 33), none, some (.int x2), some (.int x3), none, none, none] [] w := by
  obtain ⟨d, rfl⟩ : ∃ e, d = e + 1 := ⟨d - 1, by omega⟩
  intro n
  induction n with
  | zero => intro x2 x3 w hr; exact absurd hr (by simp [f_X10_fieldOf_6])
  | succ n ih =>
    intro x2 x3 w hr
    rw [f_X10_fieldOf_6] at hr
    refine V_iload_n hX dX10_fieldOf_6 rfl rfl ?_
    refine V_bipush hX dX10_fieldOf_7 bp_8 ?_
    refine V_icmp_ge (tgt := 91) hX dX10_fieldOf_9 (by decide) (fun h9 => ?_) (fun h9 => ?_)
    · rw [if_pos h9] at hr
      refine V_iload_n hX dX10_fieldOf_91 rfl rfl ?_
      cases hr
      exact V_iret hX hE rfl dX10_fieldOf_92
    · rw [if_neg h9] at hr
      refine V_iconst hX dX10_fieldOf_12 ic_0 ?_
      refine V_istore hX dX10_fieldOf_13 (Nat.le_of_ble_eq_true rfl) rfl ?_
      refine V_mask [true, false, true, true, true, false, false] ?_
      exact v_X10_fieldOf_15 hd9 hX hE ih _ _ _ _ _ hr
set_option maxRecDepth 100000 in
set_option maxHeartbeats 4000000 in
theorem c_X10_fieldOf {d : Nat} (hd9 : 4 ≤ d) {p0 : Int32} {w : Wd} {r : (Int32 × Wd)} (hr : f_X10_fieldOf p0 w = some r) : Con d yX10_fieldOf cX10_fieldOf 7 (some .int) [.ref 33, .int p0] w (some (.int r.1)) r.2 := by
  refine Con_of (by decide) (Nat.le_of_ble_eq_true rfl) (fun X hX hE => ?_)
  have hX : bOk cX10_fieldOf 7 RX10 d X := hX
  show bV X 0 [some (.ref 33), some (.int p0), none, none, none, none, none] [] w
  obtain ⟨d, rfl⟩ : ∃ e, d = e + 1 := ⟨d - 1, by omega⟩
  unfold f_X10_fieldOf at hr
  refine V_iconst hX dX10_fieldOf_0 ic_1 ?_
  refine V_iload_n hX dX10_fieldOf_1 rfl rfl ?_
  refine V_ishl hX dX10_fieldOf_2 ?_
  refine V_istore_n hX dX10_fieldOf_3 rfl (Nat.le_of_ble_eq_true rfl) rfl ?_
  refine V_iconst hX dX10_fieldOf_4 ic_0 ?_
  refine V_istore_n hX dX10_fieldOf_5 rfl (Nat.le_of_ble_eq_true rfl) rfl ?_
  refine V_mask [true, false, true, true, false, false, false] ?_
  exact v_X10_fieldOf_6 hd9 hX hE _ _ _ _ hr
def f_X10_field_60 : Nat → Int32 → Int32 → Int32 → Int32 → Int32 → Wd → Option (Int32 × Wd)
  | 0, _, _, _, _, _, _ => none
  | n + 1, x2, x3, x4, x5, x6, w => if 8 ≤ x6 then
        (if x2 = 1 then
          (some (x4, w))
        else
          (some (x5, w)))
      else
        (if ((jshr x3 x6) &&& 1) = 1 then
          (Option.bind (f_X10_yardsOf x6 w) fun q1 =>
          if inB x6 14 then (if x5 ≤ (q1.2.1 46 (ix x6)) then
            (f_X10_field_60 n x2 x3 (x4 + q1.1) x5 (x6 + 1) q1.2)
          else
            (if inB x6 14 then (f_X10_field_60 n x2 x3 (x4 + q1.1) (q1.2.1 46 (ix x6)) (x6 + 1) q1.2) else none)) else none)
        else
          (f_X10_field_60 n x2 x3 x4 x5 (x6 + 1) w))
def f_X10_field_49 (x2 : Int32) (x3 : Int32) (w : Wd) : Option (Int32 × Wd) := f_X10_field_60 fu x2 x3 0 2000 0 w
def f_X10_field (p0 : Int32) (p1 : Int32) (w : Wd) : Option (Int32 × Wd) := Option.bind (f_X10_isBundle p0 w) fun q1 =>
    if q1.1 = 0 then
      (some ((-2), q1.2))
    else
      (Option.bind (f_X10_in p1 0 2 q1.2) fun q2 =>
      if q2.1 = 0 then
        (some ((-3), q2.2))
      else
        (Option.bind (f_X10_fieldOf p0 q2.2) fun q3 =>
        if p1 = 0 then
          (some (q3.1, q3.2))
        else
          (if p1 = 2 then
            (Option.bind (f_X10_areYears q3.2) fun q4 =>
            if q4.1 = 0 then
              (some ((-1), q4.2))
            else
              (f_X10_field_49 p1 q3.1 q4.2))
          else
            (f_X10_field_49 p1 q3.1 q3.2))))
set_option maxRecDepth 100000 in
set_option maxHeartbeats 4000000 in
theorem v_X10_field_60 {d : Nat} (hd9 : 5 ≤ d) {X : bX} (hX : bOk cX10_field 7 RX10 d X) {r : (Int32 × Wd)} (hE : bEnd (some .int) (some (.int r.1)) r.2 X) : ∀ (n : Nat) (x2 : Int32) (x3 : Int32) (x4 : Int32) (x5 : Int32) (x6 : Int32) (w : Wd), f_X10_field_60 n x2 x3 x4 x5 x6 w = some r → bV X 60 [some (.ref 33), none, some (.int x2), some (.int x3), some (.int x4), some (.int x5), some (.int x6)] [] w := by
  obtain ⟨d, rfl⟩ : ∃ e, d = e + 1 := ⟨d - 1, by omega⟩
  intro n
  induction n with
  | zero => intro x2 x3 x4 x5 x6 w hr; exact absurd hr (by simp [f_X10_field_60])
  | succ n ih =>
    intro x2 x3 x4 x5 x6 w hr
    rw [f_X10_field_60] at hr
    refine V_iload hX dX10_field_60 rfl ?_
    refine V_bipush hX dX10_field_62 bp_8 ?_
    refine V_icmp_ge (tgt := 120) hX dX10_field_64 (by decide) (fun h64 => ?_) (fun h64 => ?_)
    · rw [if_pos h64] at hr
      refine V_iload_n hX dX10_field_120 rfl rfl ?_
      refine V_iconst hX dX10_field_121 ic_1 ?_
      refine V_icmp_ne (tgt := 130) hX dX10_field_122 (by decide) (fun h122 => ?_) (fun h122 => ?_)
      · rw [if_neg h122] at hr
        refine V_iload hX dX10_field_130 rfl ?_
        cases hr
        exact V_iret hX hE rfl dX10_field_132
      · rw [if_pos h122] at hr
        refine V_iload hX dX10_field_125 rfl ?_
        refine V_goto (tgt := 132) hX dX10_field_127 (by decide) ?_
        cases hr
        exact V_iret hX hE rfl dX10_field_132
    · rw [if_neg h64] at hr
      refine V_iload_n hX dX10_field_67 rfl rfl ?_
      refine V_iload hX dX10_field_68 rfl ?_
      refine V_ishr hX dX10_field_70 ?_
      refine V_iconst hX dX10_field_71 ic_1 ?_
      refine V_iand hX dX10_field_72 ?_
      refine V_iconst hX dX10_field_73 ic_1 ?_
      refine V_icmp_ne (tgt := 114) hX dX10_field_74 (by decide) (fun h74 => ?_) (fun h74 => ?_)
      · rw [if_neg h74] at hr
        refine V_iinc hX dX10_field_114 rfl (ii_1 _) (Nat.le_of_ble_eq_true rfl) rfl ?_
        refine V_goto (tgt := 60) hX dX10_field_117 (by decide) ?_
        refine V_mask [true, false, true, true, true, true, true] ?_
        exact ih _ _ _ _ _ _ hr
      · rw [if_pos h74] at hr
        refine V_iload hX dX10_field_77 rfl ?_
        refine V_aload_n hX dX10_field_79 rfl rfl ?_
        refine V_iload hX dX10_field_80 rfl ?_
        obtain ⟨q1, hq1, hr⟩ := bnd hr
        refine C_RX10_208 hX (c_X10_yardsOf (by omega) hq1) (Nat.le_of_ble_eq_true rfl) dX10_field_82 ?_
        refine V_iadd hX dX10_field_85 ?_
        refine V_istore hX dX10_field_86 (Nat.le_of_ble_eq_true rfl) rfl ?_
        refine V_aload_n hX dX10_field_88 rfl rfl ?_
        refine G_RX10_53 hX dX10_field_89 ?_
        refine V_iload hX dX10_field_92 rfl ?_
        obtain ⟨hn94, hr⟩ := ifn hr
        refine V_iald hX (Nat.le_of_ble_eq_true rfl) lay_46 (inB_in hn94) dX10_field_94 ?_
        refine V_iload hX dX10_field_95 rfl ?_
        refine V_icmp_ge (tgt := 110) hX dX10_field_97 (by decide) (fun h97 => ?_) (fun h97 => ?_)
        · rw [if_pos h97] at hr
          refine V_iload hX dX10_field_110 rfl ?_
          refine V_istore hX dX10_field_112 (Nat.le_of_ble_eq_true rfl) rfl ?_
          refine V_iinc hX dX10_field_114 rfl (ii_1 _) (Nat.le_of_ble_eq_true rfl) rfl ?_
          refine V_goto (tgt := 60) hX dX10_field_117 (by decide) ?_
          refine V_mask [true, false, true, true, true, true, true] ?_
          exact ih _ _ _ _ _ _ hr
        · rw [if_neg h97] at hr
          refine V_aload_n hX dX10_field_100 rfl rfl ?_
          refine G_RX10_53 hX dX10_field_101 ?_
          refine V_iload hX dX10_field_104 rfl ?_
          obtain ⟨hn106, hr⟩ := ifn hr
          refine V_iald hX (Nat.le_of_ble_eq_true rfl) lay_46 (inB_in hn106) dX10_field_106 ?_
          refine V_goto (tgt := 112) hX dX10_field_107 (by decide) ?_
          refine V_istore hX dX10_field_112 (Nat.le_of_ble_eq_true rfl) rfl ?_
          refine V_iinc hX dX10_field_114 rfl (ii_1 _) (Nat.le_of_ble_eq_true rfl) rfl ?_
          refine V_goto (tgt := 60) hX dX10_field_117 (by decide) ?_
          refine V_mask [true, false, true, true, true, true, true] ?_
          exact ih _ _ _ _ _ _ hr
set_option maxRecDepth 100000 in
set_option maxHeartbeats 4000000 in
theorem v_X10_field_49 {d : Nat} (hd9 : 5 ≤ d) {X : bX} (hX : bOk cX10_field 7 RX10 d X) {r : (Int32 × Wd)} (hE : bEnd (some .int) (some (.int r.1)) r.2 X) : ∀ (x2 : Int32) (x3 : Int32) (w : Wd), f_X10_field_49 x2 x3 w = some r → bV X 49 [some (.ref 33), none, some (.int x2), some (.int x3), none, none, none] [] w := by
  intro x2 x3 w hr
  obtain ⟨d, rfl⟩ : ∃ e, d = e + 1 := ⟨d - 1, by omega⟩
  unfold f_X10_field_49 at hr
  refine V_iconst hX dX10_field_49 ic_0 ?_
  refine V_istore hX dX10_field_50 (Nat.le_of_ble_eq_true rfl) rfl ?_
  refine V_sipush hX dX10_field_52 sp_2000 ?_
  refine V_istore hX dX10_field_55 (Nat.le_of_ble_eq_true rfl) rfl ?_
  refine V_iconst hX dX10_field_57 ic_0 ?_
  refine V_istore hX dX10_field_58 (Nat.le_of_ble_eq_true rfl) rfl ?_
  refine V_mask [true, false, true, true, true, true, true] ?_
  exact v_X10_field_60 hd9 hX hE _ _ _ _ _ _ _ hr
set_option maxRecDepth 100000 in
set_option maxHeartbeats 4000000 in
theorem c_X10_field {d : Nat} (hd9 : 5 ≤ d) {p0 : Int32} {p1 : Int32} {w : Wd} {r : (Int32 × Wd)} (hr : f_X10_field p0 p1 w = some r) : Con d yX10_field cX10_field 7 (some .int) [.ref 33, .int p0, .int p1] w (some (.int r.1)) r.2 := by
  refine Con_of (by decide) (Nat.le_of_ble_eq_true rfl) (fun X hX hE => ?_)
  have hX : bOk cX10_field 7 RX10 d X := hX
  show bV X 0 [some (.ref 33), some (.int p0), some (.int p1), none, none, none, none] [] w
  obtain ⟨d, rfl⟩ : ∃ e, d = e + 1 := ⟨d - 1, by omega⟩
  unfold f_X10_field at hr
  refine V_aload_n hX dX10_field_0 rfl rfl ?_
  refine V_iload_n hX dX10_field_1 rfl rfl ?_
  obtain ⟨q1, hq1, hr⟩ := bnd hr
  refine C_RX10_205 hX (c_X10_isBundle (by omega) hq1) (Nat.le_of_ble_eq_true rfl) dX10_field_2 ?_
  refine V_if_ne (tgt := 11) hX dX10_field_5 (by decide) (fun h5 => ?_) (fun h5 => ?_)
  · rw [if_neg h5] at hr
    refine V_iload_n hX dX10_field_11 rfl rfl ?_
    refine V_iconst hX dX10_field_12 ic_0 ?_
    refine V_iconst hX dX10_field_13 ic_2 ?_
    obtain ⟨q2, hq2, hr⟩ := bnd hr
    refine C_RX10_86 hX (c_X10_in (by omega) hq2) (Nat.le_of_ble_eq_true rfl) dX10_field_14 ?_
    refine V_if_ne (tgt := 23) hX dX10_field_17 (by decide) (fun h17 => ?_) (fun h17 => ?_)
    · rw [if_neg h17] at hr
      refine V_aload_n hX dX10_field_23 rfl rfl ?_
      refine V_iload_n hX dX10_field_24 rfl rfl ?_
      obtain ⟨q3, hq3, hr⟩ := bnd hr
      refine C_RX10_260 hX (c_X10_fieldOf (by omega) hq3) (Nat.le_of_ble_eq_true rfl) dX10_field_25 ?_
      refine V_istore_n hX dX10_field_28 rfl (Nat.le_of_ble_eq_true rfl) rfl ?_
      refine V_iload_n hX dX10_field_29 rfl rfl ?_
      refine V_if_ne (tgt := 35) hX dX10_field_30 (by decide) (fun h30 => ?_) (fun h30 => ?_)
      · rw [if_neg h30] at hr
        refine V_iload_n hX dX10_field_35 rfl rfl ?_
        refine V_iconst hX dX10_field_36 ic_2 ?_
        refine V_icmp_ne (tgt := 49) hX dX10_field_37 (by decide) (fun h37 => ?_) (fun h37 => ?_)
        · rw [if_neg h37] at hr
          refine V_mask [true, false, true, true, false, false, false] ?_
          exact v_X10_field_49 hd9 hX hE _ _ _ hr
        · rw [if_pos h37] at hr
          refine V_aload_n hX dX10_field_40 rfl rfl ?_
          obtain ⟨q4, hq4, hr⟩ := bnd hr
          refine C_RX10_226 hX (c_X10_areYears (by omega) hq4) (Nat.le_of_ble_eq_true rfl) dX10_field_41 ?_
          refine V_if_ne (tgt := 49) hX dX10_field_44 (by decide) (fun h44 => ?_) (fun h44 => ?_)
          · rw [if_neg h44] at hr
            refine V_mask [true, false, true, true, false, false, false] ?_
            exact v_X10_field_49 hd9 hX hE _ _ _ hr
          · rw [if_pos h44] at hr
            refine V_iconst hX dX10_field_47 ic_m1 ?_
            cases hr
            exact V_iret hX hE rfl dX10_field_48
      · rw [if_pos h30] at hr
        refine V_iload_n hX dX10_field_33 rfl rfl ?_
        cases hr
        exact V_iret hX hE rfl dX10_field_34
    · rw [if_pos h17] at hr
      refine V_bipush hX dX10_field_20 bp_m3 ?_
      cases hr
      exact V_iret hX hE rfl dX10_field_22
  · rw [if_pos h5] at hr
    refine V_bipush hX dX10_field_8 bp_m2 ?_
    cases hr
    exact V_iret hX hE rfl dX10_field_10
def f_X10_fields_37 (k4 : Int32 → Int32 → Wd → Option (Int32 × Wd)) (s0 : Int32) (x2 : Int32) (w : Wd) : Option (Int32 × Wd) := k4 (s0 + 0) (x2 + 1) w
def f_X10_fields_4 : Nat → Int32 → Int32 → Wd → Option (Int32 × Wd)
  | 0, _, _, _ => none
  | n + 1, x1, x2, w => if 8 ≤ x2 then
        (some (x1, w))
      else
        (Option.bind (f_X10_isBundle x2 w) fun q1 =>
        if q1.1 = 0 then
          (f_X10_fields_37 (f_X10_fields_4 n) x1 x2 q1.2)
        else
          (Option.bind (f_X10_fieldOf x2 q1.2) fun q2 =>
          if (q2.1 &&& ((jshl 1 x2) - 1)) = 0 then
            (f_X10_fields_4 n (x1 + 1) (x2 + 1) q2.2)
          else
            (f_X10_fields_37 (f_X10_fields_4 n) x1 x2 q2.2)))
def f_X10_fields (w : Wd) : Option (Int32 × Wd) := f_X10_fields_4 fu 0 0 w
set_option maxRecDepth 100000 in
set_option maxHeartbeats 4000000 in
theorem v_X10_fields_37 {d : Nat} (hd9 : 5 ≤ d) {X : bX} (hX : bOk cX10_fields 3 RX10 d X) {r : (Int32 × Wd)} (hE : bEnd (some .int) (some (.int r.1)) r.2 X) {k4 : Int32 → Int32 → Wd → Option (Int32 × Wd)} (hk4 : ∀ (x1 : Int32) (x2 : Int32) (w : Wd), k4 x1 x2 w = some r → bV X 4 [some (.ref 33), some (.int x1), some (.int x2)] [] w) : ∀ (s0 : Int32) (x2 : Int32) (w : Wd), f_X10_fields_37 k4 s0 x2 w = some r → bV X 37 [some (.ref 33), none, some (.int x2)] [.int s0] w := by
  intro s0 x2 w hr
  obtain ⟨d, rfl⟩ : ∃ e, d = e + 1 := ⟨d - 1, by omega⟩
  unfold f_X10_fields_37 at hr
  refine V_iconst hX dX10_fields_37 ic_0 ?_
  refine V_iadd hX dX10_fields_38 ?_
  refine V_istore_n hX dX10_fields_39 rfl (Nat.le_of_ble_eq_true rfl) rfl ?_
  refine V_iinc hX dX10_fields_40 rfl (ii_1 _) (Nat.le_of_ble_eq_true rfl) rfl ?_
  refine V_goto (tgt := 4) hX dX10_fields_43 (by decide) ?_
  refine V_mask [true, true, true] ?_
  exact hk4 _ _ _ hr
set_option maxRecDepth 100000 in
set_option maxHeartbeats 4000000 in
theorem v_X10_fields_4 {d : Nat} (hd9 : 5 ≤ d) {X : bX} (hX : bOk cX10_fields 3 RX10 d X) {r : (Int32 × Wd)} (hE : bEnd (some .int) (some (.int r.1)) r.2 X) : ∀ (n : Nat) (x1 : Int32) (x2 : Int32) (w : Wd), f_X10_fields_4 n x1 x2 w = some r → bV X 4 [some (.ref 33), some (.int x1), some (.int x2)] [] w := by
  obtain ⟨d, rfl⟩ : ∃ e, d = e + 1 := ⟨d - 1, by omega⟩
  intro n
  induction n with
  | zero => intro x1 x2 w hr; exact absurd hr (by simp [f_X10_fields_4])
  | succ n ih =>
    intro x1 x2 w hr
    rw [f_X10_fields_4] at hr
    refine V_iload_n hX dX10_fields_4 rfl rfl ?_
    refine V_bipush hX dX10_fields_5 bp_8 ?_
    refine V_icmp_ge (tgt := 46) hX dX10_fields_7 (by decide) (fun h7 => ?_) (fun h7 => ?_)
    · rw [if_pos h7] at hr
      refine V_iload_n hX dX10_fields_46 rfl rfl ?_
      cases hr
      exact V_iret hX hE rfl dX10_fields_47
    · rw [if_neg h7] at hr
      refine V_iload_n hX dX10_fields_10 rfl rfl ?_
      refine V_aload_n hX dX10_fields_11 rfl rfl ?_
      refine V_iload_n hX dX10_fields_12 rfl rfl ?_
      obtain ⟨q1, hq1, hr⟩ := bnd hr
      refine C_RX10_205 hX (c_X10_isBundle (by omega) hq1) (Nat.le_of_ble_eq_true rfl) dX10_fields_13 ?_
      refine V_if_eq (tgt := 37) hX dX10_fields_16 (by decide) (fun h16 => ?_) (fun h16 => ?_)
      · rw [if_pos h16] at hr
        refine V_mask [true, false, true] ?_
        exact v_X10_fields_37 hd9 hX hE ih _ _ _ hr
      · rw [if_neg h16] at hr
        refine V_aload_n hX dX10_fields_19 rfl rfl ?_
        refine V_iload_n hX dX10_fields_20 rfl rfl ?_
        obtain ⟨q2, hq2, hr⟩ := bnd hr
        refine C_RX10_260 hX (c_X10_fieldOf (by omega) hq2) (Nat.le_of_ble_eq_true rfl) dX10_fields_21 ?_
        refine V_iconst hX dX10_fields_24 ic_1 ?_
        refine V_iload_n hX dX10_fields_25 rfl rfl ?_
        refine V_ishl hX dX10_fields_26 ?_
        refine V_iconst hX dX10_fields_27 ic_1 ?_
        refine V_isub hX dX10_fields_28 ?_
        refine V_iand hX dX10_fields_29 ?_
        refine V_if_ne (tgt := 37) hX dX10_fields_30 (by decide) (fun h30 => ?_) (fun h30 => ?_)
        · rw [if_neg h30] at hr
          refine V_mask [true, false, true] ?_
          exact v_X10_fields_37 hd9 hX hE ih _ _ _ hr
        · rw [if_pos h30] at hr
          refine V_iconst hX dX10_fields_33 ic_1 ?_
          refine V_goto (tgt := 38) hX dX10_fields_34 (by decide) ?_
          refine V_iadd hX dX10_fields_38 ?_
          refine V_istore_n hX dX10_fields_39 rfl (Nat.le_of_ble_eq_true rfl) rfl ?_
          refine V_iinc hX dX10_fields_40 rfl (ii_1 _) (Nat.le_of_ble_eq_true rfl) rfl ?_
          refine V_goto (tgt := 4) hX dX10_fields_43 (by decide) ?_
          refine V_mask [true, true, true] ?_
          exact ih _ _ _ hr
set_option maxRecDepth 100000 in
set_option maxHeartbeats 4000000 in
theorem c_X10_fields {d : Nat} (hd9 : 5 ≤ d) {w : Wd} {r : (Int32 × Wd)} (hr : f_X10_fields w = some r) : Con d yX10_fields cX10_fields 3 (some .int) [.ref 33] w (some (.int r.1)) r.2 := by
  refine Con_of (by decide) (Nat.le_of_ble_eq_true rfl) (fun X hX hE => ?_)
  have hX : bOk cX10_fields 3 RX10 d X := hX
  show bV X 0 [some (.ref 33), none, none] [] w
  obtain ⟨d, rfl⟩ : ∃ e, d = e + 1 := ⟨d - 1, by omega⟩
  unfold f_X10_fields at hr
  refine V_iconst hX dX10_fields_0 ic_0 ?_
  refine V_istore_n hX dX10_fields_1 rfl (Nat.le_of_ble_eq_true rfl) rfl ?_
  refine V_iconst hX dX10_fields_2 ic_0 ?_
  refine V_istore_n hX dX10_fields_3 rfl (Nat.le_of_ble_eq_true rfl) rfl ?_
  refine V_mask [true, true, true] ?_
  exact v_X10_fields_4 hd9 hX hE _ _ _ _ hr
def f_X10_ploughedIn_139 (k5 : Int32 → Int32 → Int32 → Int32 → Wd → Option (Int32 × Wd)) (s0 : Int32) (x1 : Int32) (x2 : Int32) (x4 : Int32) (w : Wd) : Option (Int32 × Wd) := k5 x1 x2 (s0 + 0) (x4 + 1) w
def f_X10_ploughedIn_74 (k5 : Int32 → Int32 → Int32 → Int32 → Wd → Option (Int32 × Wd)) (k30 : Int32 → Int32 → Int32 → Int32 → Int32 → Int32 → Wd → Option (Int32 × Wd)) (s0 : Int32) (x1 : Int32) (x2 : Int32) (x3 : Int32) (x4 : Int32) (x5 : Int32) (x6 : Int32) (w : Wd) : Option (Int32 × Wd) := if x5 ≤ s0 then
      (k30 x1 x2 x3 x4 x5 (x6 + 1) w)
    else
      (k30 x1 x2 x3 x4 s0 (x6 + 1) w)
def f_X10_ploughedIn_121 (k5 : Int32 → Int32 → Int32 → Int32 → Wd → Option (Int32 × Wd)) (s0 : Int32) (s1 : Int32) (s2 : Int32) (x1 : Int32) (x2 : Int32) (x4 : Int32) (x5 : Int32) (w : Wd) : Option (Int32 × Wd) := if s1 < s2 then
      (f_X10_ploughedIn_139 k5 s0 x1 x2 x4 w)
    else
      (if x5 ≤ x1 then
        (f_X10_ploughedIn_139 k5 s0 x1 x2 x4 w)
      else
        (Option.bind (f_X10_yardsOf x4 w) fun q1 =>
        k5 x1 x2 (s0 + q1.1) (x4 + 1) q1.2))
def f_X10_ploughedIn_30 (k5 : Int32 → Int32 → Int32 → Int32 → Wd → Option (Int32 × Wd)) : Nat → Int32 → Int32 → Int32 → Int32 → Int32 → Int32 → Wd → Option (Int32 × Wd)
  | 0, _, _, _, _, _, _, _ => none
  | n + 1, x1, x2, x3, x4, x5, x6, w => if 14 ≤ x6 then
        (if x2 = 0 then
          (if inB x4 14 then (f_X10_ploughedIn_121 k5 x3 x1 (w.1 47 (ix x4)) x1 x2 x4 x5 w) else none)
        else
          (if inB x4 14 then (f_X10_ploughedIn_121 k5 x3 x1 (w.1 46 (ix x4)) x1 x2 x4 x5 w) else none))
      else
        (Option.bind (f_X10_isPair x6 x4 w) fun q1 =>
        if q1.1 = 0 then
          (f_X10_ploughedIn_74 k5 (f_X10_ploughedIn_30 k5 n) x5 x1 x2 x3 x4 x5 x6 q1.2)
        else
          (if x2 = 0 then
            (if inB x6 14 then (f_X10_ploughedIn_74 k5 (f_X10_ploughedIn_30 k5 n) (q1.2.1 46 (ix x6)) x1 x2 x3 x4 x5 x6 q1.2) else none)
          else
            (if inB x6 14 then (f_X10_ploughedIn_74 k5 (f_X10_ploughedIn_30 k5 n) (q1.2.1 47 (ix x6)) x1 x2 x3 x4 x5 x6 q1.2) else none)))
def f_X10_ploughedIn_5 : Nat → Int32 → Int32 → Int32 → Int32 → Wd → Option (Int32 × Wd)
  | 0, _, _, _, _, _ => none
  | n + 1, x1, x2, x3, x4, w => if 8 ≤ x4 then
        (some (x3, w))
      else
        (Option.bind (f_X10_isBundle x4 w) fun q1 =>
        if q1.1 = 0 then
          (f_X10_ploughedIn_5 n x1 x2 x3 (x4 + 1) q1.2)
        else
          (f_X10_ploughedIn_30 (f_X10_ploughedIn_5 n) fu x1 x2 x3 x4 2001 8 q1.2))
def f_X10_ploughedIn (p0 : Int32) (p1 : Int32) (w : Wd) : Option (Int32 × Wd) := f_X10_ploughedIn_5 fu p0 p1 0 0 w
set_option maxRecDepth 100000 in
set_option maxHeartbeats 4000000 in
theorem v_X10_ploughedIn_139 {d : Nat} (hd9 : 3 ≤ d) {X : bX} (hX : bOk cX10_ploughedIn 8 RX10 d X) {r : (Int32 × Wd)} (hE : bEnd (some .int) (some (.int r.1)) r.2 X) {k5 : Int32 → Int32 → Int32 → Int32 → Wd → Option (Int32 × Wd)} (hk5 : ∀ (x1 : Int32) (x2 : Int32) (x3 : Int32) (x4 : Int32) (w : Wd), k5 x1 x2 x3 x4 w = some r → bV X 5 [some (.ref 33), some (.int x1), some (.int x2), some (.int x3), some (.int x4), none, none, none] [] w) : ∀ (s0 : Int32) (x1 : Int32) (x2 : Int32) (x4 : Int32) (w : Wd), f_X10_ploughedIn_139 k5 s0 x1 x2 x4 w = some r → bV X 139 [some (.ref 33), some (.int x1), some (.int x2), none, some (.int x4), none, none, none] [.int s0] w := by
  intro s0 x1 x2 x4 w hr
  obtain ⟨d, rfl⟩ : ∃ e, d = e + 1 := ⟨d - 1, by omega⟩
  unfold f_X10_ploughedIn_139 at hr
  refine V_iconst hX dX10_ploughedIn_139 ic_0 ?_
  refine V_iadd hX dX10_ploughedIn_140 ?_
  refine V_istore_n hX dX10_ploughedIn_141 rfl (Nat.le_of_ble_eq_true rfl) rfl ?_
  refine V_iinc hX dX10_ploughedIn_142 rfl (ii_1 _) (Nat.le_of_ble_eq_true rfl) rfl ?_
  refine V_goto (tgt := 5) hX dX10_ploughedIn_145 (by decide) ?_
  refine V_mask [true, true, true, true, true, false, false, false] ?_
  exact hk5 _ _ _ _ _ hr
set_option maxRecDepth 100000 in
set_option maxHeartbeats 4000000 in
theorem v_X10_ploughedIn_74 {d : Nat} (hd9 : 3 ≤ d) {X : bX} (hX : bOk cX10_ploughedIn 8 RX10 d X) {r : (Int32 × Wd)} (hE : bEnd (some .int) (some (.int r.1)) r.2 X) {k5 : Int32 → Int32 → Int32 → Int32 → Wd → Option (Int32 × Wd)} {k30 : Int32 → Int32 → Int32 → Int32 → Int32 → Int32 → Wd → Option (Int32 × Wd)} (hk5 : ∀ (x1 : Int32) (x2 : Int32) (x3 : Int32) (x4 : Int32) (w : Wd), k5 x1 x2 x3 x4 w = some r → bV X 5 [some (.ref 33), some (.int x1), some (.int x2), some (.int x3), some (.int x4), none, none, none] [] w) (hk30 : ∀ (x1 : Int32) (x2 : Int32) (x3 : Int32) (x4 : Int32) (x5 : Int32) (x6 : Int32) (w : Wd), k30 x1 x2 x3 x4 x5 x6 w = some r → bV X 30 [some (.ref 33), some (.int x1), some (.int x2), some (.int x3), some (.int x4), some (.int x5), some (.int x6), none] [] w) : ∀ (s0 : Int32) (x1 : Int32) (x2 : Int32) (x3 : Int32) (x4 : Int32) (x5 : Int32) (x6 : Int32) (w : Wd), f_X10_ploughedIn_74 k5 k30 s0 x1 x2 x3 x4 x5 x6 w = some r → bV X 74 [some (.ref 33), some (.int x1), some (.int x2), some (.int x3), some (.int x4), some (.int x5), some (.int x6), none] [.int s0] w := by
  intro s0 x1 x2 x3 x4 x5 x6 w hr
  obtain ⟨d, rfl⟩ : ∃ e, d = e + 1 := ⟨d - 1, by omega⟩
  unfold f_X10_ploughedIn_74 at hr
  refine V_istore hX dX10_ploughedIn_74 (Nat.le_of_ble_eq_true rfl) rfl ?_
  refine V_iload hX dX10_ploughedIn_76 rfl ?_
  refine V_iload hX dX10_ploughedIn_78 rfl ?_
  refine V_icmp_ge (tgt := 88) hX dX10_ploughedIn_80 (by decide) (fun h80 => ?_) (fun h80 => ?_)
  · rw [if_pos h80] at hr
    refine V_iload hX dX10_ploughedIn_88 rfl ?_
    refine V_istore hX dX10_ploughedIn_90 (Nat.le_of_ble_eq_true rfl) rfl ?_
    refine V_iinc hX dX10_ploughedIn_92 rfl (ii_1 _) (Nat.le_of_ble_eq_true rfl) rfl ?_
    refine V_goto (tgt := 30) hX dX10_ploughedIn_95 (by decide) ?_
    refine V_mask [true, true, true, true, true, true, true, false] ?_
    exact hk30 _ _ _ _ _ _ _ hr
  · rw [if_neg h80] at hr
    refine V_iload hX dX10_ploughedIn_83 rfl ?_
    refine V_goto (tgt := 90) hX dX10_ploughedIn_85 (by decide) ?_
    refine V_istore hX dX10_ploughedIn_90 (Nat.le_of_ble_eq_true rfl) rfl ?_
    refine V_iinc hX dX10_ploughedIn_92 rfl (ii_1 _) (Nat.le_of_ble_eq_true rfl) rfl ?_
    refine V_goto (tgt := 30) hX dX10_ploughedIn_95 (by decide) ?_
    refine V_mask [true, true, true, true, true, true, true, false] ?_
    exact hk30 _ _ _ _ _ _ _ hr
set_option maxRecDepth 100000 in
set_option maxHeartbeats 4000000 in
theorem v_X10_ploughedIn_121 {d : Nat} (hd9 : 3 ≤ d) {X : bX} (hX : bOk cX10_ploughedIn 8 RX10 d X) {r : (Int32 × Wd)} (hE : bEnd (some .int) (some (.int r.1)) r.2 X) {k5 : Int32 → Int32 → Int32 → Int32 → Wd → Option (Int32 × Wd)} (hk5 : ∀ (x1 : Int32) (x2 : Int32) (x3 : Int32) (x4 : Int32) (w : Wd), k5 x1 x2 x3 x4 w = some r → bV X 5 [some (.ref 33), some (.int x1), some (.int x2), some (.int x3), some (.int x4), none, none, none] [] w) : ∀ (s0 : Int32) (s1 : Int32) (s2 : Int32) (x1 : Int32) (x2 : Int32) (x4 : Int32) (x5 : Int32) (w : Wd), f_X10_ploughedIn_121 k5 s0 s1 s2 x1 x2 x4 x5 w = some r → bV X 121 [some (.ref 33), some (.int x1), some (.int x2), none, some (.int x4), some (.int x5), none, none] [.int s2, .int s1, .int s0] w := by
  intro s0 s1 s2 x1 x2 x4 x5 w hr
  obtain ⟨d, rfl⟩ : ∃ e, d = e + 1 := ⟨d - 1, by omega⟩
  unfold f_X10_ploughedIn_121 at hr
  refine V_icmp_lt (tgt := 139) hX dX10_ploughedIn_121 (by decide) (fun h121 => ?_) (fun h121 => ?_)
  · rw [if_pos h121] at hr
    refine V_mask [true, true, true, false, true, false, false, false] ?_
    exact v_X10_ploughedIn_139 hd9 hX hE hk5 _ _ _ _ _ hr
  · rw [if_neg h121] at hr
    refine V_iload_n hX dX10_ploughedIn_124 rfl rfl ?_
    refine V_iload hX dX10_ploughedIn_125 rfl ?_
    refine V_icmp_ge (tgt := 139) hX dX10_ploughedIn_127 (by decide) (fun h127 => ?_) (fun h127 => ?_)
    · rw [if_pos h127] at hr
      refine V_mask [true, true, true, false, true, false, false, false] ?_
      exact v_X10_ploughedIn_139 hd9 hX hE hk5 _ _ _ _ _ hr
    · rw [if_neg h127] at hr
      refine V_aload_n hX dX10_ploughedIn_130 rfl rfl ?_
      refine V_iload hX dX10_ploughedIn_131 rfl ?_
      obtain ⟨q1, hq1, hr⟩ := bnd hr
      refine C_RX10_208 hX (c_X10_yardsOf (by omega) hq1) (Nat.le_of_ble_eq_true rfl) dX10_ploughedIn_133 ?_
      refine V_goto (tgt := 140) hX dX10_ploughedIn_136 (by decide) ?_
      refine V_iadd hX dX10_ploughedIn_140 ?_
      refine V_istore_n hX dX10_ploughedIn_141 rfl (Nat.le_of_ble_eq_true rfl) rfl ?_
      refine V_iinc hX dX10_ploughedIn_142 rfl (ii_1 _) (Nat.le_of_ble_eq_true rfl) rfl ?_
      refine V_goto (tgt := 5) hX dX10_ploughedIn_145 (by decide) ?_
      refine V_mask [true, true, true, true, true, false, false, false] ?_
      exact hk5 _ _ _ _ _ hr
set_option maxRecDepth 100000 in
set_option maxHeartbeats 4000000 in
theorem v_X10_ploughedIn_30 {d : Nat} (hd9 : 3 ≤ d) {X : bX} (hX : bOk cX10_ploughedIn 8 RX10 d X) {r : (Int32 × Wd)} (hE : bEnd (some .int) (some (.int r.1)) r.2 X) {k5 : Int32 → Int32 → Int32 → Int32 → Wd → Option (Int32 × Wd)} (hk5 : ∀ (x1 : Int32) (x2 : Int32) (x3 : Int32) (x4 : Int32) (w : Wd), k5 x1 x2 x3 x4 w = some r → bV X 5 [some (.ref 33), some (.int x1), some (.int x2), some (.int x3), some (.int x4), none, none, none] [] w) : ∀ (n : Nat) (x1 : Int32) (x2 : Int32) (x3 : Int32) (x4 : Int32) (x5 : Int32) (x6 : Int32) (w : Wd), f_X10_ploughedIn_30 k5 n x1 x2 x3 x4 x5 x6 w = some r → bV X 30 [some (.ref 33), some (.int x1), some (.int x2), some (.int x3), some (.int x4), some (.int x5), some (.int x6), none] [] w := by
  obtain ⟨d, rfl⟩ : ∃ e, d = e + 1 := ⟨d - 1, by omega⟩
  intro n
  induction n with
  | zero => intro x1 x2 x3 x4 x5 x6 w hr; exact absurd hr (by simp [f_X10_ploughedIn_30])
  | succ n ih =>
    intro x1 x2 x3 x4 x5 x6 w hr
    rw [f_X10_ploughedIn_30] at hr
    refine V_iload hX dX10_ploughedIn_30 rfl ?_
    refine V_bipush hX dX10_ploughedIn_32 bp_14 ?_
    refine V_icmp_ge (tgt := 98) hX dX10_ploughedIn_34 (by decide) (fun h34 => ?_) (fun h34 => ?_)
    · rw [if_pos h34] at hr
      refine V_iload_n hX dX10_ploughedIn_98 rfl rfl ?_
      refine V_iload_n hX dX10_ploughedIn_99 rfl rfl ?_
      refine V_iload_n hX dX10_ploughedIn_100 rfl rfl ?_
      refine V_if_ne (tgt := 114) hX dX10_ploughedIn_101 (by decide) (fun h101 => ?_) (fun h101 => ?_)
      · rw [if_neg h101] at hr
        refine V_aload_n hX dX10_ploughedIn_114 rfl rfl ?_
        refine G_RX10_53 hX dX10_ploughedIn_115 ?_
        refine V_iload hX dX10_ploughedIn_118 rfl ?_
        obtain ⟨hn120, hr⟩ := ifn hr
        refine V_iald hX (Nat.le_of_ble_eq_true rfl) lay_46 (inB_in hn120) dX10_ploughedIn_120 ?_
        refine V_mask [true, true, true, false, true, true, false, false] ?_
        exact v_X10_ploughedIn_121 hd9 hX hE hk5 _ _ _ _ _ _ _ _ hr
      · rw [if_pos h101] at hr
        refine V_aload_n hX dX10_ploughedIn_104 rfl rfl ?_
        refine G_RX10_56 hX dX10_ploughedIn_105 ?_
        refine V_iload hX dX10_ploughedIn_108 rfl ?_
        obtain ⟨hn110, hr⟩ := ifn hr
        refine V_iald hX (Nat.le_of_ble_eq_true rfl) lay_47 (inB_in hn110) dX10_ploughedIn_110 ?_
        refine V_goto (tgt := 121) hX dX10_ploughedIn_111 (by decide) ?_
        refine V_mask [true, true, true, false, true, true, false, false] ?_
        exact v_X10_ploughedIn_121 hd9 hX hE hk5 _ _ _ _ _ _ _ _ hr
    · rw [if_neg h34] at hr
      refine V_aload_n hX dX10_ploughedIn_37 rfl rfl ?_
      refine V_iload hX dX10_ploughedIn_38 rfl ?_
      refine V_iload hX dX10_ploughedIn_40 rfl ?_
      obtain ⟨q1, hq1, hr⟩ := bnd hr
      refine C_RX10_218 hX (c_X10_isPair (by omega) hq1) (Nat.le_of_ble_eq_true rfl) dX10_ploughedIn_42 ?_
      refine V_if_eq (tgt := 72) hX dX10_ploughedIn_45 (by decide) (fun h45 => ?_) (fun h45 => ?_)
      · rw [if_pos h45] at hr
        refine V_iload hX dX10_ploughedIn_72 rfl ?_
        refine V_mask [true, true, true, true, true, true, true, false] ?_
        exact v_X10_ploughedIn_74 hd9 hX hE hk5 ih _ _ _ _ _ _ _ _ hr
      · rw [if_neg h45] at hr
        refine V_iload_n hX dX10_ploughedIn_48 rfl rfl ?_
        refine V_if_ne (tgt := 62) hX dX10_ploughedIn_49 (by decide) (fun h49 => ?_) (fun h49 => ?_)
        · rw [if_neg h49] at hr
          refine V_aload_n hX dX10_ploughedIn_62 rfl rfl ?_
          refine G_RX10_56 hX dX10_ploughedIn_63 ?_
          refine V_iload hX dX10_ploughedIn_66 rfl ?_
          obtain ⟨hn68, hr⟩ := ifn hr
          refine V_iald hX (Nat.le_of_ble_eq_true rfl) lay_47 (inB_in hn68) dX10_ploughedIn_68 ?_
          refine V_goto (tgt := 74) hX dX10_ploughedIn_69 (by decide) ?_
          refine V_mask [true, true, true, true, true, true, true, false] ?_
          exact v_X10_ploughedIn_74 hd9 hX hE hk5 ih _ _ _ _ _ _ _ _ hr
        · rw [if_pos h49] at hr
          refine V_aload_n hX dX10_ploughedIn_52 rfl rfl ?_
          refine G_RX10_53 hX dX10_ploughedIn_53 ?_
          refine V_iload hX dX10_ploughedIn_56 rfl ?_
          obtain ⟨hn58, hr⟩ := ifn hr
          refine V_iald hX (Nat.le_of_ble_eq_true rfl) lay_46 (inB_in hn58) dX10_ploughedIn_58 ?_
          refine V_goto (tgt := 74) hX dX10_ploughedIn_59 (by decide) ?_
          refine V_mask [true, true, true, true, true, true, true, false] ?_
          exact v_X10_ploughedIn_74 hd9 hX hE hk5 ih _ _ _ _ _ _ _ _ hr
set_option maxRecDepth 100000 in
set_option maxHeartbeats 4000000 in
theorem v_X10_ploughedIn_5 {d : Nat} (hd9 : 3 ≤ d) {X : bX} (hX : bOk cX10_ploughedIn 8 RX10 d X) {r : (Int32 × Wd)} (hE : bEnd (some .int) (some (.int r.1)) r.2 X) : ∀ (n : Nat) (x1 : Int32) (x2 : Int32) (x3 : Int32) (x4 : Int32) (w : Wd), f_X10_ploughedIn_5 n x1 x2 x3 x4 w = some r → bV X 5 [some (.ref 33), some (.int x1), some (.int x2), some (.int x3), some (.int x4), none, none, none] [] w := by
  obtain ⟨d, rfl⟩ : ∃ e, d = e + 1 := ⟨d - 1, by omega⟩
  intro n
  induction n with
  | zero => intro x1 x2 x3 x4 w hr; exact absurd hr (by simp [f_X10_ploughedIn_5])
  | succ n ih =>
    intro x1 x2 x3 x4 w hr
    rw [f_X10_ploughedIn_5] at hr
    refine V_iload hX dX10_ploughedIn_5 rfl ?_
    refine V_bipush hX dX10_ploughedIn_7 bp_8 ?_
    refine V_icmp_ge (tgt := 148) hX dX10_ploughedIn_9 (by decide) (fun h9 => ?_) (fun h9 => ?_)
    · rw [if_pos h9] at hr
      refine V_iload_n hX dX10_ploughedIn_148 rfl rfl ?_
      cases hr
      exact V_iret hX hE rfl dX10_ploughedIn_149
    · rw [if_neg h9] at hr
      refine V_aload_n hX dX10_ploughedIn_12 rfl rfl ?_
      refine V_iload hX dX10_ploughedIn_13 rfl ?_
      obtain ⟨q1, hq1, hr⟩ := bnd hr
      refine C_RX10_205 hX (c_X10_isBundle (by omega) hq1) (Nat.le_of_ble_eq_true rfl) dX10_ploughedIn_15 ?_
      refine V_if_eq (tgt := 142) hX dX10_ploughedIn_18 (by decide) (fun h18 => ?_) (fun h18 => ?_)
      · rw [if_pos h18] at hr
        refine V_iinc hX dX10_ploughedIn_142 rfl (ii_1 _) (Nat.le_of_ble_eq_true rfl) rfl ?_
        refine V_goto (tgt := 5) hX dX10_ploughedIn_145 (by decide) ?_
        refine V_mask [true, true, true, true, true, false, false, false] ?_
        exact ih _ _ _ _ _ hr
      · rw [if_neg h18] at hr
        refine V_sipush hX dX10_ploughedIn_21 sp_2001 ?_
        refine V_istore hX dX10_ploughedIn_24 (Nat.le_of_ble_eq_true rfl) rfl ?_
        refine V_bipush hX dX10_ploughedIn_26 bp_8 ?_
        refine V_istore hX dX10_ploughedIn_28 (Nat.le_of_ble_eq_true rfl) rfl ?_
        refine V_mask [true, true, true, true, true, true, true, false] ?_
        exact v_X10_ploughedIn_30 hd9 hX hE ih _ _ _ _ _ _ _ _ hr
set_option maxRecDepth 100000 in
set_option maxHeartbeats 4000000 in
theorem c_X10_ploughedIn {d : Nat} (hd9 : 3 ≤ d) {p0 : Int32} {p1 : Int32} {w : Wd} {r : (Int32 × Wd)} (hr : f_X10_ploughedIn p0 p1 w = some r) : Con d yX10_ploughedIn cX10_ploughedIn 8 (some .int) [.ref 33, .int p0, .int p1] w (some (.int r.1)) r.2 := by
  refine Con_of (by decide) (Nat.le_of_ble_eq_true rfl) (fun X hX hE => ?_)
  have hX : bOk cX10_ploughedIn 8 RX10 d X := hX
  show bV X 0 [some (.ref 33), some (.int p0), some (.int p1), none, none, none, none, none] [] w
  obtain ⟨d, rfl⟩ : ∃ e, d = e + 1 := ⟨d - 1, by omega⟩
  unfold f_X10_ploughedIn at hr
  refine V_iconst hX dX10_ploughedIn_0 ic_0 ?_
  refine V_istore_n hX dX10_ploughedIn_1 rfl (Nat.le_of_ble_eq_true rfl) rfl ?_
  refine V_iconst hX dX10_ploughedIn_2 ic_0 ?_
  refine V_istore hX dX10_ploughedIn_3 (Nat.le_of_ble_eq_true rfl) rfl ?_
  refine V_mask [true, true, true, true, true, false, false, false] ?_
  exact v_X10_ploughedIn_5 hd9 hX hE _ _ _ _ _ _ hr
def f_X10_ploughed (p0 : Int32) (p1 : Int32) (w : Wd) : Option (Int32 × Wd) := Option.bind (f_X10_in p0 0 2000 w) fun q1 =>
    if q1.1 = 0 then
      (some ((-3), q1.2))
    else
      (Option.bind (f_X10_in p1 0 1 q1.2) fun q2 =>
      if q2.1 = 0 then
        (some ((-3), q2.2))
      else
        (Option.bind (f_X10_areYears q2.2) fun q3 =>
        if q3.1 = 0 then
          (some ((-1), q3.2))
        else
          (Option.bind (f_X10_ploughedIn p0 p1 q3.2) fun q4 =>
          some (q4.1, q4.2))))
set_option maxRecDepth 100000 in
set_option maxHeartbeats 4000000 in
theorem c_X10_ploughed {d : Nat} (hd9 : 5 ≤ d) {p0 : Int32} {p1 : Int32} {w : Wd} {r : (Int32 × Wd)} (hr : f_X10_ploughed p0 p1 w = some r) : Con d yX10_ploughed cX10_ploughed 3 (some .int) [.ref 33, .int p0, .int p1] w (some (.int r.1)) r.2 := by
  refine Con_of (by decide) (Nat.le_of_ble_eq_true rfl) (fun X hX hE => ?_)
  have hX : bOk cX10_ploughed 3 RX10 d X := hX
  show bV X 0 [some (.ref 33), some (.int p0), some (.int p1)] [] w
  obtain ⟨d, rfl⟩ : ∃ e, d = e + 1 := ⟨d - 1, by omega⟩
  unfold f_X10_ploughed at hr
  refine V_iload_n hX dX10_ploughed_0 rfl rfl ?_
  refine V_iconst hX dX10_ploughed_1 ic_0 ?_
  refine V_sipush hX dX10_ploughed_2 sp_2000 ?_
  obtain ⟨q1, hq1, hr⟩ := bnd hr
  refine C_RX10_86 hX (c_X10_in (by omega) hq1) (Nat.le_of_ble_eq_true rfl) dX10_ploughed_5 ?_
  refine V_if_eq (tgt := 20) hX dX10_ploughed_8 (by decide) (fun h8 => ?_) (fun h8 => ?_)
  · rw [if_pos h8] at hr
    refine V_bipush hX dX10_ploughed_20 bp_m3 ?_
    cases hr
    exact V_iret hX hE rfl dX10_ploughed_22
  · rw [if_neg h8] at hr
    refine V_iload_n hX dX10_ploughed_11 rfl rfl ?_
    refine V_iconst hX dX10_ploughed_12 ic_0 ?_
    refine V_iconst hX dX10_ploughed_13 ic_1 ?_
    obtain ⟨q2, hq2, hr⟩ := bnd hr
    refine C_RX10_86 hX (c_X10_in (by omega) hq2) (Nat.le_of_ble_eq_true rfl) dX10_ploughed_14 ?_
    refine V_if_ne (tgt := 23) hX dX10_ploughed_17 (by decide) (fun h17 => ?_) (fun h17 => ?_)
    · rw [if_neg h17] at hr
      refine V_aload_n hX dX10_ploughed_23 rfl rfl ?_
      obtain ⟨q3, hq3, hr⟩ := bnd hr
      refine C_RX10_226 hX (c_X10_areYears (by omega) hq3) (Nat.le_of_ble_eq_true rfl) dX10_ploughed_24 ?_
      refine V_if_eq (tgt := 39) hX dX10_ploughed_27 (by decide) (fun h27 => ?_) (fun h27 => ?_)
      · rw [if_pos h27] at hr
        refine V_iconst hX dX10_ploughed_39 ic_m1 ?_
        cases hr
        exact V_iret hX hE rfl dX10_ploughed_40
      · rw [if_neg h27] at hr
        refine V_aload_n hX dX10_ploughed_30 rfl rfl ?_
        refine V_iload_n hX dX10_ploughed_31 rfl rfl ?_
        refine V_iload_n hX dX10_ploughed_32 rfl rfl ?_
        obtain ⟨q4, hq4, hr⟩ := bnd hr
        refine C_RX10_263 hX (c_X10_ploughedIn (by omega) hq4) (Nat.le_of_ble_eq_true rfl) dX10_ploughed_33 ?_
        refine V_goto (tgt := 40) hX dX10_ploughed_36 (by decide) ?_
        cases hr
        exact V_iret hX hE rfl dX10_ploughed_40
    · rw [if_pos h17] at hr
      refine V_bipush hX dX10_ploughed_20 bp_m3 ?_
      cases hr
      exact V_iret hX hE rfl dX10_ploughed_22
def f_X10_peak_57 (k28 : Int32 → Int32 → Int32 → Int32 → Wd → Option (Int32 × Wd)) (s0 : Int32) (x1 : Int32) (x3 : Int32) (x4 : Int32) (x5 : Int32) (w : Wd) : Option (Int32 × Wd) := if x5 ≤ x3 then
      (k28 x1 s0 x3 (x4 + 1) w)
    else
      (k28 x1 s0 x5 (x4 + 1) w)
def f_X10_peak_28 : Nat → Int32 → Int32 → Int32 → Int32 → Wd → Option (Int32 × Wd)
  | 0, _, _, _, _, _ => none
  | n + 1, x1, x2, x3, x4, w => if 2000 < x4 then
        (if x1 = 0 then
          (some (x2, w))
        else
          (some (x3, w)))
      else
        (Option.bind (f_X10_ploughedIn x4 1 w) fun q1 =>
        if q1.1 ≤ x3 then
          (f_X10_peak_57 (f_X10_peak_28 n) x2 x1 x3 x4 q1.1 q1.2)
        else
          (f_X10_peak_57 (f_X10_peak_28 n) x4 x1 x3 x4 q1.1 q1.2))
def f_X10_peak (p0 : Int32) (w : Wd) : Option (Int32 × Wd) := Option.bind (f_X10_in p0 0 1 w) fun q1 =>
    if q1.1 = 0 then
      (some ((-3), q1.2))
    else
      (Option.bind (f_X10_areYears q1.2) fun q2 =>
      if q2.1 = 0 then
        (some ((-1), q2.2))
      else
        (f_X10_peak_28 fu p0 0 (-1) 0 q2.2))
set_option maxRecDepth 100000 in
set_option maxHeartbeats 4000000 in
theorem v_X10_peak_57 {d : Nat} (hd9 : 5 ≤ d) {X : bX} (hX : bOk cX10_peak 6 RX10 d X) {r : (Int32 × Wd)} (hE : bEnd (some .int) (some (.int r.1)) r.2 X) {k28 : Int32 → Int32 → Int32 → Int32 → Wd → Option (Int32 × Wd)} (hk28 : ∀ (x1 : Int32) (x2 : Int32) (x3 : Int32) (x4 : Int32) (w : Wd), k28 x1 x2 x3 x4 w = some r → bV X 28 [some (.ref 33), some (.int x1), some (.int x2), some (.int x3), some (.int x4), none] [] w) : ∀ (s0 : Int32) (x1 : Int32) (x3 : Int32) (x4 : Int32) (x5 : Int32) (w : Wd), f_X10_peak_57 k28 s0 x1 x3 x4 x5 w = some r → bV X 57 [some (.ref 33), some (.int x1), none, some (.int x3), some (.int x4), some (.int x5)] [.int s0] w := by
  intro s0 x1 x3 x4 x5 w hr
  obtain ⟨d, rfl⟩ : ∃ e, d = e + 1 := ⟨d - 1, by omega⟩
  unfold f_X10_peak_57 at hr
  refine V_istore_n hX dX10_peak_57 rfl (Nat.le_of_ble_eq_true rfl) rfl ?_
  refine V_iload hX dX10_peak_58 rfl ?_
  refine V_iload_n hX dX10_peak_60 rfl rfl ?_
  refine V_icmp_le (tgt := 69) hX dX10_peak_61 (by decide) (fun h61 => ?_) (fun h61 => ?_)
  · rw [if_pos h61] at hr
    refine V_iload_n hX dX10_peak_69 rfl rfl ?_
    refine V_istore_n hX dX10_peak_70 rfl (Nat.le_of_ble_eq_true rfl) rfl ?_
    refine V_iinc hX dX10_peak_71 rfl (ii_1 _) (Nat.le_of_ble_eq_true rfl) rfl ?_
    refine V_goto (tgt := 28) hX dX10_peak_74 (by decide) ?_
    refine V_mask [true, true, true, true, true, false] ?_
    exact hk28 _ _ _ _ _ hr
  · rw [if_neg h61] at hr
    refine V_iload hX dX10_peak_64 rfl ?_
    refine V_goto (tgt := 70) hX dX10_peak_66 (by decide) ?_
    refine V_istore_n hX dX10_peak_70 rfl (Nat.le_of_ble_eq_true rfl) rfl ?_
    refine V_iinc hX dX10_peak_71 rfl (ii_1 _) (Nat.le_of_ble_eq_true rfl) rfl ?_
    refine V_goto (tgt := 28) hX dX10_peak_74 (by decide) ?_
    refine V_mask [true, true, true, true, true, false] ?_
    exact hk28 _ _ _ _ _ hr
set_option maxRecDepth 100000 in
set_option maxHeartbeats 4000000 in
theorem v_X10_peak_28 {d : Nat} (hd9 : 5 ≤ d) {X : bX} (hX : bOk cX10_peak 6 RX10 d X) {r : (Int32 × Wd)} (hE : bEnd (some .int) (some (.int r.1)) r.2 X) : ∀ (n : Nat) (x1 : Int32) (x2 : Int32) (x3 : Int32) (x4 : Int32) (w : Wd), f_X10_peak_28 n x1 x2 x3 x4 w = some r → bV X 28 [some (.ref 33), some (.int x1), some (.int x2), some (.int x3), some (.int x4), none] [] w := by
  obtain ⟨d, rfl⟩ : ∃ e, d = e + 1 := ⟨d - 1, by omega⟩
  intro n
  induction n with
  | zero => intro x1 x2 x3 x4 w hr; exact absurd hr (by simp [f_X10_peak_28])
  | succ n ih =>
    intro x1 x2 x3 x4 w hr
    rw [f_X10_peak_28] at hr
    refine V_iload hX dX10_peak_28 rfl ?_
    refine V_sipush hX dX10_peak_30 sp_2000 ?_
    refine V_icmp_gt (tgt := 77) hX dX10_peak_33 (by decide) (fun h33 => ?_) (fun h33 => ?_)
    · rw [if_pos h33] at hr
      refine V_iload_n hX dX10_peak_77 rfl rfl ?_
      refine V_if_ne (tgt := 85) hX dX10_peak_78 (by decide) (fun h78 => ?_) (fun h78 => ?_)
      · rw [if_neg h78] at hr
        refine V_iload_n hX dX10_peak_85 rfl rfl ?_
        cases hr
        exact V_iret hX hE rfl dX10_peak_86
      · rw [if_pos h78] at hr
        refine V_iload_n hX dX10_peak_81 rfl rfl ?_
        refine V_goto (tgt := 86) hX dX10_peak_82 (by decide) ?_
        cases hr
        exact V_iret hX hE rfl dX10_peak_86
    · rw [if_neg h33] at hr
      refine V_aload_n hX dX10_peak_36 rfl rfl ?_
      refine V_iload hX dX10_peak_37 rfl ?_
      refine V_iconst hX dX10_peak_39 ic_1 ?_
      obtain ⟨q1, hq1, hr⟩ := bnd hr
      refine C_RX10_263 hX (c_X10_ploughedIn (by omega) hq1) (Nat.le_of_ble_eq_true rfl) dX10_peak_40 ?_
      refine V_istore hX dX10_peak_43 (Nat.le_of_ble_eq_true rfl) rfl ?_
      refine V_iload hX dX10_peak_45 rfl ?_
      refine V_iload_n hX dX10_peak_47 rfl rfl ?_
      refine V_icmp_le (tgt := 56) hX dX10_peak_48 (by decide) (fun h48 => ?_) (fun h48 => ?_)
      · rw [if_pos h48] at hr
        refine V_iload_n hX dX10_peak_56 rfl rfl ?_
        refine V_mask [true, true, false, true, true, true] ?_
        exact v_X10_peak_57 hd9 hX hE ih _ _ _ _ _ _ hr
      · rw [if_neg h48] at hr
        refine V_iload hX dX10_peak_51 rfl ?_
        refine V_goto (tgt := 57) hX dX10_peak_53 (by decide) ?_
        refine V_mask [true, true, false, true, true, true] ?_
        exact v_X10_peak_57 hd9 hX hE ih _ _ _ _ _ _ hr
set_option maxRecDepth 100000 in
set_option maxHeartbeats 4000000 in
theorem c_X10_peak {d : Nat} (hd9 : 5 ≤ d) {p0 : Int32} {w : Wd} {r : (Int32 × Wd)} (hr : f_X10_peak p0 w = some r) : Con d yX10_peak cX10_peak 6 (some .int) [.ref 33, .int p0] w (some (.int r.1)) r.2 := by
  refine Con_of (by decide) (Nat.le_of_ble_eq_true rfl) (fun X hX hE => ?_)
  have hX : bOk cX10_peak 6 RX10 d X := hX
  show bV X 0 [some (.ref 33), some (.int p0), none, none, none, none] [] w
  obtain ⟨d, rfl⟩ : ∃ e, d = e + 1 := ⟨d - 1, by omega⟩
  unfold f_X10_peak at hr
  refine V_iload_n hX dX10_peak_0 rfl rfl ?_
  refine V_iconst hX dX10_peak_1 ic_0 ?_
  refine V_iconst hX dX10_peak_2 ic_1 ?_
  obtain ⟨q1, hq1, hr⟩ := bnd hr
  refine C_RX10_86 hX (c_X10_in (by omega) hq1) (Nat.le_of_ble_eq_true rfl) dX10_peak_3 ?_
  refine V_if_ne (tgt := 12) hX dX10_peak_6 (by decide) (fun h6 => ?_) (fun h6 => ?_)
  · rw [if_neg h6] at hr
    refine V_aload_n hX dX10_peak_12 rfl rfl ?_
    obtain ⟨q2, hq2, hr⟩ := bnd hr
    refine C_RX10_226 hX (c_X10_areYears (by omega) hq2) (Nat.le_of_ble_eq_true rfl) dX10_peak_13 ?_
    refine V_if_ne (tgt := 21) hX dX10_peak_16 (by decide) (fun h16 => ?_) (fun h16 => ?_)
    · rw [if_neg h16] at hr
      refine V_iconst hX dX10_peak_21 ic_0 ?_
      refine V_istore_n hX dX10_peak_22 rfl (Nat.le_of_ble_eq_true rfl) rfl ?_
      refine V_iconst hX dX10_peak_23 ic_m1 ?_
      refine V_istore_n hX dX10_peak_24 rfl (Nat.le_of_ble_eq_true rfl) rfl ?_
      refine V_iconst hX dX10_peak_25 ic_0 ?_
      refine V_istore hX dX10_peak_26 (Nat.le_of_ble_eq_true rfl) rfl ?_
      refine V_mask [true, true, true, true, true, false] ?_
      exact v_X10_peak_28 hd9 hX hE _ _ _ _ _ _ hr
    · rw [if_pos h16] at hr
      refine V_iconst hX dX10_peak_19 ic_m1 ?_
      cases hr
      exact V_iret hX hE rfl dX10_peak_20
  · rw [if_pos h6] at hr
    refine V_bipush hX dX10_peak_9 bp_m3 ?_
    cases hr
    exact V_iret hX hE rfl dX10_peak_11
