def f_X10_isPair (p0 : Int32) (p1 : Int32) (w : Wd) : Option (Int32 × Wd) := Option.bind (f_X10_isThing p0 w) fun q1 =>
    if q1.1 = 0 then
      (some (0, q1.2))
    else
      (Option.bind (f_X10_isThing p1 q1.2) fun q2 =>
      if q2.1 = 0 then
        (some (0, q2.2))
      else
        (if inB p0 14 then (if ((jshr (q2.2.1 41 (ix p0)) p1) &&& 1) = 1 then
          (some (1, q2.2))
        else
          (some (0, q2.2))) else none))
set_option maxRecDepth 100000 in
set_option maxHeartbeats 4000000 in
theorem c_X10_isPair {d : Nat} (hd9 : 2 ≤ d) {p0 : Int32} {p1 : Int32} {w : Wd} {r : (Int32 × Wd)} (hr : f_X10_isPair p0 p1 w = some r) : Con d yX10_isPair cX10_isPair 3 (some .boolean) [.ref 33, .int p0, .int p1] w (some (.int r.1)) r.2 := by
  refine Con_of (by decide) (Nat.le_of_ble_eq_true rfl) (fun X hX hE => ?_)
  have hX : bOk cX10_isPair 3 RX10 d X := hX
  show bV X 0 [some (.ref 33), some (.int p0), some (.int p1)] [] w
  obtain ⟨d, rfl⟩ : ∃ e, d = e + 1 := ⟨d - 1, by omega⟩
  unfold f_X10_isPair at hr
  refine V_aload_n hX dX10_isPair_0 rfl rfl ?_
  refine V_iload_n hX dX10_isPair_1 rfl rfl ?_
  obtain ⟨q1, hq1, hr⟩ := bnd hr
  refine C_RX10_93 hX (c_X10_isThing (by omega) hq1) (Nat.le_of_ble_eq_true rfl) dX10_isPair_2 ?_
  refine V_if_eq (tgt := 34) hX dX10_isPair_5 (by decide) (fun h5 => ?_) (fun h5 => ?_)
  · rw [if_pos h5] at hr
    refine V_iconst hX dX10_isPair_34 ic_0 ?_
    cases hr
    exact V_iret hX hE rfl dX10_isPair_35
  · rw [if_neg h5] at hr
    refine V_aload_n hX dX10_isPair_8 rfl rfl ?_
    refine V_iload_n hX dX10_isPair_9 rfl rfl ?_
    obtain ⟨q2, hq2, hr⟩ := bnd hr
    refine C_RX10_93 hX (c_X10_isThing (by omega) hq2) (Nat.le_of_ble_eq_true rfl) dX10_isPair_10 ?_
    refine V_if_eq (tgt := 34) hX dX10_isPair_13 (by decide) (fun h13 => ?_) (fun h13 => ?_)
    · rw [if_pos h13] at hr
      refine V_iconst hX dX10_isPair_34 ic_0 ?_
      cases hr
      exact V_iret hX hE rfl dX10_isPair_35
    · rw [if_neg h13] at hr
      refine V_aload_n hX dX10_isPair_16 rfl rfl ?_
      refine G_RX10_31 hX dX10_isPair_17 ?_
      refine V_iload_n hX dX10_isPair_20 rfl rfl ?_
      obtain ⟨hn21, hr⟩ := ifn hr
      refine V_iald hX (Nat.le_of_ble_eq_true rfl) lay_41 (inB_in hn21) dX10_isPair_21 ?_
      refine V_iload_n hX dX10_isPair_22 rfl rfl ?_
      refine V_ishr hX dX10_isPair_23 ?_
      refine V_iconst hX dX10_isPair_24 ic_1 ?_
      refine V_iand hX dX10_isPair_25 ?_
      refine V_iconst hX dX10_isPair_26 ic_1 ?_
      refine V_icmp_ne (tgt := 34) hX dX10_isPair_27 (by decide) (fun h27 => ?_) (fun h27 => ?_)
      · rw [if_neg h27] at hr
        refine V_iconst hX dX10_isPair_34 ic_0 ?_
        cases hr
        exact V_iret hX hE rfl dX10_isPair_35
      · rw [if_pos h27] at hr
        refine V_iconst hX dX10_isPair_30 ic_1 ?_
        refine V_goto (tgt := 35) hX dX10_isPair_31 (by decide) ?_
        cases hr
        exact V_iret hX hE rfl dX10_isPair_35
def f_X10_findReach_61 (k45 : Int32 → Wd → Option Wd) (k53 : Int32 → Int32 → Wd → Option Wd) : Nat → Int32 → Int32 → Int32 → Wd → Option Wd
  | 0, _, _, _, _ => none
  | n + 1, x1, x2, x3, w => if 14 ≤ x3 then
        (k53 x1 (x2 + 1) w)
      else
        (if inB x2 14 then (if inB x2 14 then (if ((jshr (w.1 42 (ix x2)) x3) &&& 1) = 1 then
          (if inB x3 14 then (if inB x2 14 then (f_X10_findReach_61 k45 k53 n x1 x2 (x3 + 1) (wS w 42 (ix x2) ((w.1 42 (ix x2)) ||| (w.1 42 (ix x3))))) else none) else none)
        else
          (if inB x2 14 then (f_X10_findReach_61 k45 k53 n x1 x2 (x3 + 1) (wS w 42 (ix x2) ((w.1 42 (ix x2)) ||| 0))) else none)) else none) else none)
def f_X10_findReach_53 (k45 : Int32 → Wd → Option Wd) : Nat → Int32 → Int32 → Wd → Option Wd
  | 0, _, _, _ => none
  | n + 1, x1, x2, w => if 14 ≤ x2 then
        (k45 (x1 + 1) w)
      else
        (f_X10_findReach_61 k45 (f_X10_findReach_53 k45 n) fu x1 x2 0 w)
def f_X10_findReach_45 : Nat → Int32 → Wd → Option Wd
  | 0, _, _ => none
  | n + 1, x1, w => if 14 ≤ x1 then
        (some w)
      else
        (f_X10_findReach_53 (f_X10_findReach_45 n) fu x1 0 w)
def f_X10_findReach_2 : Nat → Int32 → Wd → Option Wd
  | 0, _, _ => none
  | n + 1, x1, w => if 14 ≤ x1 then
        (f_X10_findReach_45 fu 0 w)
      else
        (Option.bind (f_X10_isThing x1 w) fun q1 =>
        if q1.1 = 0 then
          (if inB x1 14 then (f_X10_findReach_2 n (x1 + 1) (wS q1.2 42 (ix x1) 0)) else none)
        else
          (if inB x1 14 then (if inB x1 14 then (f_X10_findReach_2 n (x1 + 1) (wS q1.2 42 (ix x1) ((q1.2.1 41 (ix x1)) &&& (q1.2.1 33 0)))) else none) else none))
def f_X10_findReach (w : Wd) : Option Wd := f_X10_findReach_2 fu 0 w
set_option maxRecDepth 100000 in
set_option maxHeartbeats 4000000 in
theorem v_X10_findReach_61 {d : Nat} (hd9 : 2 ≤ d) {X : bX} (hX : bOk cX10_findReach 4 RX10 d X) {r : Wd} (hE : bEnd none none r X) {k45 : Int32 → Wd → Option Wd} {k53 : Int32 → Int32 → Wd → Option Wd} (hk45 : ∀ (x1 : Int32) (w : Wd), k45 x1 w = some r → bV X 45 [some (.ref 33), some (.int x1), none, none] [] w) (hk53 : ∀ (x1 : Int32) (x2 : Int32) (w : Wd), k53 x1 x2 w = some r → bV X 53 [some (.ref 33), some (.int x1), some (.int x2), none] [] w) : ∀ (n : Nat) (x1 : Int32) (x2 : Int32) (x3 : Int32) (w : Wd), f_X10_findReach_61 k45 k53 n x1 x2 x3 w = some r → bV X 61 [some (.ref 33), some (.int x1), some (.int x2), some (.int x3)] [] w := by
  obtain ⟨d, rfl⟩ : ∃ e, d = e + 1 := ⟨d - 1, by omega⟩
  intro n
  induction n with
  | zero => intro x1 x2 x3 w hr; exact absurd hr (by simp [f_X10_findReach_61])
  | succ n ih =>
    intro x1 x2 x3 w hr
    rw [f_X10_findReach_61] at hr
    refine V_iload_n hX dX10_findReach_61 rfl rfl ?_
    refine V_bipush hX dX10_findReach_62 bp_14 ?_
    refine V_icmp_ge (tgt := 110) hX dX10_findReach_64 (by decide) (fun h64 => ?_) (fun h64 => ?_)
    · rw [if_pos h64] at hr
      refine V_iinc hX dX10_findReach_110 rfl (ii_1 _) (Nat.le_of_ble_eq_true rfl) rfl ?_
      refine V_goto (tgt := 53) hX dX10_findReach_113 (by decide) ?_
      refine V_mask [true, true, true, false] ?_
      exact hk53 _ _ _ hr
    · rw [if_neg h64] at hr
      refine V_aload_n hX dX10_findReach_67 rfl rfl ?_
      refine G_RX10_34 hX dX10_findReach_68 ?_
      refine V_iload_n hX dX10_findReach_71 rfl rfl ?_
      refine V_aload_n hX dX10_findReach_72 rfl rfl ?_
      refine G_RX10_34 hX dX10_findReach_73 ?_
      refine V_iload_n hX dX10_findReach_76 rfl rfl ?_
      obtain ⟨hn77, hr⟩ := ifn hr
      refine V_iald hX (Nat.le_of_ble_eq_true rfl) lay_42 (inB_in hn77) dX10_findReach_77 ?_
      refine V_aload_n hX dX10_findReach_78 rfl rfl ?_
      refine G_RX10_34 hX dX10_findReach_79 ?_
      refine V_iload_n hX dX10_findReach_82 rfl rfl ?_
      obtain ⟨hn83, hr⟩ := ifn hr
      refine V_iald hX (Nat.le_of_ble_eq_true rfl) lay_42 (inB_in hn83) dX10_findReach_83 ?_
      refine V_iload_n hX dX10_findReach_84 rfl rfl ?_
      refine V_ishr hX dX10_findReach_85 ?_
      refine V_iconst hX dX10_findReach_86 ic_1 ?_
      refine V_iand hX dX10_findReach_87 ?_
      refine V_iconst hX dX10_findReach_88 ic_1 ?_
      refine V_icmp_ne (tgt := 101) hX dX10_findReach_89 (by decide) (fun h89 => ?_) (fun h89 => ?_)
      · rw [if_neg h89] at hr
        refine V_iconst hX dX10_findReach_101 ic_0 ?_
        refine V_ior hX dX10_findReach_102 ?_
        obtain ⟨hn103, hr⟩ := ifn hr
        refine V_iast hX (Nat.le_of_ble_eq_true rfl) lay_42 (inB_in hn103) dX10_findReach_103 ?_
        refine V_iinc hX dX10_findReach_104 rfl (ii_1 _) (Nat.le_of_ble_eq_true rfl) rfl ?_
        refine V_goto (tgt := 61) hX dX10_findReach_107 (by decide) ?_
        refine V_mask [true, true, true, true] ?_
        exact ih _ _ _ _ hr
      · rw [if_pos h89] at hr
        refine V_aload_n hX dX10_findReach_92 rfl rfl ?_
        refine G_RX10_34 hX dX10_findReach_93 ?_
        refine V_iload_n hX dX10_findReach_96 rfl rfl ?_
        obtain ⟨hn97, hr⟩ := ifn hr
        refine V_iald hX (Nat.le_of_ble_eq_true rfl) lay_42 (inB_in hn97) dX10_findReach_97 ?_
        refine V_goto (tgt := 102) hX dX10_findReach_98 (by decide) ?_
        refine V_ior hX dX10_findReach_102 ?_
        obtain ⟨hn103, hr⟩ := ifn hr
        refine V_iast hX (Nat.le_of_ble_eq_true rfl) lay_42 (inB_in hn103) dX10_findReach_103 ?_
        refine V_iinc hX dX10_findReach_104 rfl (ii_1 _) (Nat.le_of_ble_eq_true rfl) rfl ?_
        refine V_goto (tgt := 61) hX dX10_findReach_107 (by decide) ?_
        refine V_mask [true, true, true, true] ?_
        exact ih _ _ _ _ hr
set_option maxRecDepth 100000 in
set_option maxHeartbeats 4000000 in
theorem v_X10_findReach_53 {d : Nat} (hd9 : 2 ≤ d) {X : bX} (hX : bOk cX10_findReach 4 RX10 d X) {r : Wd} (hE : bEnd none none r X) {k45 : Int32 → Wd → Option Wd} (hk45 : ∀ (x1 : Int32) (w : Wd), k45 x1 w = some r → bV X 45 [some (.ref 33), some (.int x1), none, none] [] w) : ∀ (n : Nat) (x1 : Int32) (x2 : Int32) (w : Wd), f_X10_findReach_53 k45 n x1 x2 w = some r → bV X 53 [some (.ref 33), some (.int x1), some (.int x2), none] [] w := by
  obtain ⟨d, rfl⟩ : ∃ e, d = e + 1 := ⟨d - 1, by omega⟩
  intro n
  induction n with
  | zero => intro x1 x2 w hr; exact absurd hr (by simp [f_X10_findReach_53])
  | succ n ih =>
    intro x1 x2 w hr
    rw [f_X10_findReach_53] at hr
    refine V_iload_n hX dX10_findReach_53 rfl rfl ?_
    refine V_bipush hX dX10_findReach_54 bp_14 ?_
    refine V_icmp_ge (tgt := 116) hX dX10_findReach_56 (by decide) (fun h56 => ?_) (fun h56 => ?_)
    · rw [if_pos h56] at hr
      refine V_iinc hX dX10_findReach_116 rfl (ii_1 _) (Nat.le_of_ble_eq_true rfl) rfl ?_
      refine V_goto (tgt := 45) hX dX10_findReach_119 (by decide) ?_
      refine V_mask [true, true, false, false] ?_
      exact hk45 _ _ hr
    · rw [if_neg h56] at hr
      refine V_iconst hX dX10_findReach_59 ic_0 ?_
      refine V_istore_n hX dX10_findReach_60 rfl (Nat.le_of_ble_eq_true rfl) rfl ?_
      refine V_mask [true, true, true, true] ?_
      exact v_X10_findReach_61 hd9 hX hE hk45 ih _ _ _ _ _ hr
set_option maxRecDepth 100000 in
set_option maxHeartbeats 4000000 in
theorem v_X10_findReach_45 {d : Nat} (hd9 : 2 ≤ d) {X : bX} (hX : bOk cX10_findReach 4 RX10 d X) {r : Wd} (hE : bEnd none none r X) : ∀ (n : Nat) (x1 : Int32) (w : Wd), f_X10_findReach_45 n x1 w = some r → bV X 45 [some (.ref 33), some (.int x1), none, none] [] w := by
  obtain ⟨d, rfl⟩ : ∃ e, d = e + 1 := ⟨d - 1, by omega⟩
  intro n
  induction n with
  | zero => intro x1 w hr; exact absurd hr (by simp [f_X10_findReach_45])
  | succ n ih =>
    intro x1 w hr
    rw [f_X10_findReach_45] at hr
    refine V_iload_n hX dX10_findReach_45 rfl rfl ?_
    refine V_bipush hX dX10_findReach_46 bp_14 ?_
    refine V_icmp_ge (tgt := 122) hX dX10_findReach_48 (by decide) (fun h48 => ?_) (fun h48 => ?_)
    · rw [if_pos h48] at hr
      cases hr
      exact V_vret hX hE dX10_findReach_122
    · rw [if_neg h48] at hr
      refine V_iconst hX dX10_findReach_51 ic_0 ?_
      refine V_istore_n hX dX10_findReach_52 rfl (Nat.le_of_ble_eq_true rfl) rfl ?_
      refine V_mask [true, true, true, false] ?_
      exact v_X10_findReach_53 hd9 hX hE ih _ _ _ _ hr
set_option maxRecDepth 100000 in
set_option maxHeartbeats 4000000 in
theorem v_X10_findReach_2 {d : Nat} (hd9 : 2 ≤ d) {X : bX} (hX : bOk cX10_findReach 4 RX10 d X) {r : Wd} (hE : bEnd none none r X) : ∀ (n : Nat) (x1 : Int32) (w : Wd), f_X10_findReach_2 n x1 w = some r → bV X 2 [some (.ref 33), some (.int x1), none, none] [] w := by
  obtain ⟨d, rfl⟩ : ∃ e, d = e + 1 := ⟨d - 1, by omega⟩
  intro n
  induction n with
  | zero => intro x1 w hr; exact absurd hr (by simp [f_X10_findReach_2])
  | succ n ih =>
    intro x1 w hr
    rw [f_X10_findReach_2] at hr
    refine V_iload_n hX dX10_findReach_2 rfl rfl ?_
    refine V_bipush hX dX10_findReach_3 bp_14 ?_
    refine V_icmp_ge (tgt := 43) hX dX10_findReach_5 (by decide) (fun h5 => ?_) (fun h5 => ?_)
    · rw [if_pos h5] at hr
      refine V_iconst hX dX10_findReach_43 ic_0 ?_
      refine V_istore_n hX dX10_findReach_44 rfl (Nat.le_of_ble_eq_true rfl) rfl ?_
      refine V_mask [true, true, false, false] ?_
      exact v_X10_findReach_45 hd9 hX hE _ _ _ hr
    · rw [if_neg h5] at hr
      refine V_aload_n hX dX10_findReach_8 rfl rfl ?_
      refine G_RX10_34 hX dX10_findReach_9 ?_
      refine V_iload_n hX dX10_findReach_12 rfl rfl ?_
      refine V_aload_n hX dX10_findReach_13 rfl rfl ?_
      refine V_iload_n hX dX10_findReach_14 rfl rfl ?_
      obtain ⟨q1, hq1, hr⟩ := bnd hr
      refine C_RX10_93 hX (c_X10_isThing (by omega) hq1) (Nat.le_of_ble_eq_true rfl) dX10_findReach_15 ?_
      refine V_if_eq (tgt := 35) hX dX10_findReach_18 (by decide) (fun h18 => ?_) (fun h18 => ?_)
      · rw [if_pos h18] at hr
        refine V_iconst hX dX10_findReach_35 ic_0 ?_
        obtain ⟨hn36, hr⟩ := ifn hr
        refine V_iast hX (Nat.le_of_ble_eq_true rfl) lay_42 (inB_in hn36) dX10_findReach_36 ?_
        refine V_iinc hX dX10_findReach_37 rfl (ii_1 _) (Nat.le_of_ble_eq_true rfl) rfl ?_
        refine V_goto (tgt := 2) hX dX10_findReach_40 (by decide) ?_
        refine V_mask [true, true, false, false] ?_
        exact ih _ _ hr
      · rw [if_neg h18] at hr
        refine V_aload_n hX dX10_findReach_21 rfl rfl ?_
        refine G_RX10_31 hX dX10_findReach_22 ?_
        refine V_iload_n hX dX10_findReach_25 rfl rfl ?_
        obtain ⟨hn26, hr⟩ := ifn hr
        refine V_iald hX (Nat.le_of_ble_eq_true rfl) lay_41 (inB_in hn26) dX10_findReach_26 ?_
        refine V_aload_n hX dX10_findReach_27 rfl rfl ?_
        refine G_RX10_90 hX dX10_findReach_28 ?_
        refine V_iand hX dX10_findReach_31 ?_
        refine V_goto (tgt := 36) hX dX10_findReach_32 (by decide) ?_
        obtain ⟨hn36, hr⟩ := ifn hr
        refine V_iast hX (Nat.le_of_ble_eq_true rfl) lay_42 (inB_in hn36) dX10_findReach_36 ?_
        refine V_iinc hX dX10_findReach_37 rfl (ii_1 _) (Nat.le_of_ble_eq_true rfl) rfl ?_
        refine V_goto (tgt := 2) hX dX10_findReach_40 (by decide) ?_
        refine V_mask [true, true, false, false] ?_
        exact ih _ _ hr
set_option maxRecDepth 100000 in
set_option maxHeartbeats 4000000 in
theorem c_X10_findReach {d : Nat} (hd9 : 2 ≤ d) {w : Wd} {r : Wd} (hr : f_X10_findReach w = some r) : Con d yX10_findReach cX10_findReach 4 none [.ref 33] w none r := by
  refine Con_of (by decide) (Nat.le_of_ble_eq_true rfl) (fun X hX hE => ?_)
  have hX : bOk cX10_findReach 4 RX10 d X := hX
  show bV X 0 [some (.ref 33), none, none, none] [] w
  obtain ⟨d, rfl⟩ : ∃ e, d = e + 1 := ⟨d - 1, by omega⟩
  unfold f_X10_findReach at hr
  refine V_iconst hX dX10_findReach_0 ic_0 ?_
  refine V_istore_n hX dX10_findReach_1 rfl (Nat.le_of_ble_eq_true rfl) rfl ?_
  refine V_mask [true, true, false, false] ?_
  exact v_X10_findReach_2 hd9 hX hE _ _ _ hr
def f_X10_ringOf_8 : Nat → Int32 → Int32 → Wd → Option (Int32 × Wd)
  | 0, _, _, _ => none
  | n + 1, x1, x2, w => if 14 ≤ x2 then
        (some (x1, w))
      else
        (if inB x2 14 then (f_X10_ringOf_8 n (x1 ||| ((w.1 42 (ix x2)) &&& (jshl 1 x2))) (x2 + 1) w) else none)
def f_X10_ringOf (w : Wd) : Option (Int32 × Wd) := Option.bind (f_X10_findReach w) fun q1 =>
    f_X10_ringOf_8 fu 0 0 q1
set_option maxRecDepth 100000 in
set_option maxHeartbeats 4000000 in
theorem v_X10_ringOf_8 {d : Nat} (hd9 : 3 ≤ d) {X : bX} (hX : bOk cX10_ringOf 3 RX10 d X) {r : (Int32 × Wd)} (hE : bEnd (some .int) (some (.int r.1)) r.2 X) : ∀ (n : Nat) (x1 : Int32) (x2 : Int32) (w : Wd), f_X10_ringOf_8 n x1 x2 w = some r → bV X 8 [some (.ref 33), some (.int x1), some (.int x2)] [] w := by
  obtain ⟨d, rfl⟩ : ∃ e, d = e + 1 := ⟨d - 1, by omega⟩
  intro n
  induction n with
  | zero => intro x1 x2 w hr; exact absurd hr (by simp [f_X10_ringOf_8])
  | succ n ih =>
    intro x1 x2 w hr
    rw [f_X10_ringOf_8] at hr
    refine V_iload_n hX dX10_ringOf_8 rfl rfl ?_
    refine V_bipush hX dX10_ringOf_9 bp_14 ?_
    refine V_icmp_ge (tgt := 33) hX dX10_ringOf_11 (by decide) (fun h11 => ?_) (fun h11 => ?_)
    · rw [if_pos h11] at hr
      refine V_iload_n hX dX10_ringOf_33 rfl rfl ?_
      cases hr
      exact V_iret hX hE rfl dX10_ringOf_34
    · rw [if_neg h11] at hr
      refine V_iload_n hX dX10_ringOf_14 rfl rfl ?_
      refine V_aload_n hX dX10_ringOf_15 rfl rfl ?_
      refine G_RX10_34 hX dX10_ringOf_16 ?_
      refine V_iload_n hX dX10_ringOf_19 rfl rfl ?_
      obtain ⟨hn20, hr⟩ := ifn hr
      refine V_iald hX (Nat.le_of_ble_eq_true rfl) lay_42 (inB_in hn20) dX10_ringOf_20 ?_
      refine V_iconst hX dX10_ringOf_21 ic_1 ?_
      refine V_iload_n hX dX10_ringOf_22 rfl rfl ?_
      refine V_ishl hX dX10_ringOf_23 ?_
      refine V_iand hX dX10_ringOf_24 ?_
      refine V_ior hX dX10_ringOf_25 ?_
      refine V_istore_n hX dX10_ringOf_26 rfl (Nat.le_of_ble_eq_true rfl) rfl ?_
      refine V_iinc hX dX10_ringOf_27 rfl (ii_1 _) (Nat.le_of_ble_eq_true rfl) rfl ?_
      refine V_goto (tgt := 8) hX dX10_ringOf_30 (by decide) ?_
      refine V_mask [true, true, true] ?_
      exact ih _ _ _ hr
set_option maxRecDepth 100000 in
set_option maxHeartbeats 4000000 in
theorem c_X10_ringOf {d : Nat} (hd9 : 3 ≤ d) {w : Wd} {r : (Int32 × Wd)} (hr : f_X10_ringOf w = some r) : Con d yX10_ringOf cX10_ringOf 3 (some .int) [.ref 33] w (some (.int r.1)) r.2 := by
  refine Con_of (by decide) (Nat.le_of_ble_eq_true rfl) (fun X hX hE => ?_)
  have hX : bOk cX10_ringOf 3 RX10 d X := hX
  show bV X 0 [some (.ref 33), none, none] [] w
  obtain ⟨d, rfl⟩ : ∃ e, d = e + 1 := ⟨d - 1, by omega⟩
  unfold f_X10_ringOf at hr
  refine V_aload_n hX dX10_ringOf_0 rfl rfl ?_
  obtain ⟨q1, hq1, hr⟩ := bnd hr
  refine C_RX10_229 hX (c_X10_findReach (by omega) hq1) (Nat.le_of_ble_eq_true rfl) dX10_ringOf_1 ?_
  refine V_iconst hX dX10_ringOf_4 ic_0 ?_
  refine V_istore_n hX dX10_ringOf_5 rfl (Nat.le_of_ble_eq_true rfl) rfl ?_
  refine V_iconst hX dX10_ringOf_6 ic_0 ?_
  refine V_istore_n hX dX10_ringOf_7 rfl (Nat.le_of_ble_eq_true rfl) rfl ?_
  refine V_mask [true, true, true] ?_
  exact v_X10_ringOf_8 hd9 hX hE _ _ _ _ hr
def f_X10_areYears_202 (k169 : Int32 → Int32 → Wd → Option (Int32 × Wd)) (x2 : Int32) (w : Wd) : Option (Int32 × Wd) := k169 1 (x2 + 1) w
def f_X10_areYears_97 (k29 : Int32 → Wd → Option (Int32 × Wd)) (k37 : Int32 → Int32 → Wd → Option (Int32 × Wd)) (k45 : Int32 → Int32 → Int32 → Wd → Option (Int32 × Wd)) (s1 : Int32) (s2 : Int32) (x1 : Int32) (x2 : Int32) (x3 : Int32) (w : Wd) : Option (Int32 × Wd) := if inB s1 14 then (if inB x3 14 then (if inB x2 14 then (if ((wS w 46 (ix s1) s2).1 47 (ix x2)) ≤ ((wS w 46 (ix s1) s2).1 47 (ix x3)) then
      (if inB x2 14 then (if inB x3 14 then (k45 x1 x2 (x3 + 1) (wS (wS w 46 (ix s1) s2) 47 (ix x3) (((wS w 46 (ix s1) s2).1 47 (ix x2)) - 1))) else none) else none)
    else
      (if inB x3 14 then (if inB x3 14 then (k45 x1 x2 (x3 + 1) (wS (wS w 46 (ix s1) s2) 47 (ix x3) ((wS w 46 (ix s1) s2).1 47 (ix x3)))) else none) else none)) else none) else none) else none
def f_X10_areYears_169 : Nat → Int32 → Int32 → Wd → Option (Int32 × Wd)
  | 0, _, _, _ => none
  | n + 1, x1, x2, w => if 14 ≤ x2 then
        (if bo x1 then some (x1, w) else none)
      else
        (if x1 = 0 then
          (f_X10_areYears_169 n 0 (x2 + 1) w)
        else
          (Option.bind (f_X10_isThing x2 w) fun q1 =>
          if q1.1 = 0 then
            (f_X10_areYears_202 (f_X10_areYears_169 n) x2 q1.2)
          else
            (if inB x2 14 then (if inB x2 14 then (if (q1.2.1 47 (ix x2)) < (q1.2.1 46 (ix x2)) then
              (f_X10_areYears_169 n 0 (x2 + 1) q1.2)
            else
              (f_X10_areYears_202 (f_X10_areYears_169 n) x2 q1.2)) else none) else none)))
def f_X10_areYears_45 (k29 : Int32 → Wd → Option (Int32 × Wd)) (k37 : Int32 → Int32 → Wd → Option (Int32 × Wd)) : Nat → Int32 → Int32 → Int32 → Wd → Option (Int32 × Wd)
  | 0, _, _, _, _ => none
  | n + 1, x1, x2, x3, w => if 14 ≤ x3 then
        (k37 x1 (x2 + 1) w)
      else
        (Option.bind (f_X10_isPair x2 x3 w) fun q1 =>
        if q1.1 = 0 then
          (f_X10_areYears_45 k29 k37 n x1 x2 (x3 + 1) q1.2)
        else
          (if inB x2 14 then (if inB x3 14 then (if (q1.2.1 46 (ix x2)) ≤ (q1.2.1 46 (ix x3)) then
            (if inB x3 14 then (f_X10_areYears_97 k29 k37 (f_X10_areYears_45 k29 k37 n) x2 ((q1.2.1 46 (ix x3)) + 1) x1 x2 x3 q1.2) else none)
          else
            (if inB x2 14 then (f_X10_areYears_97 k29 k37 (f_X10_areYears_45 k29 k37 n) x2 (q1.2.1 46 (ix x2)) x1 x2 x3 q1.2) else none)) else none) else none))
def f_X10_areYears_37 (k29 : Int32 → Wd → Option (Int32 × Wd)) : Nat → Int32 → Int32 → Wd → Option (Int32 × Wd)
  | 0, _, _, _ => none
  | n + 1, x1, x2, w => if 14 ≤ x2 then
        (k29 (x1 + 1) w)
      else
        (f_X10_areYears_45 k29 (f_X10_areYears_37 k29 n) fu x1 x2 0 w)
def f_X10_areYears_29 : Nat → Int32 → Wd → Option (Int32 × Wd)
  | 0, _, _ => none
  | n + 1, x1, w => if 15 ≤ x1 then
        (Option.bind (f_X10_ringOf w) fun q1 =>
        if q1.1 = 0 then
          (f_X10_areYears_169 fu 1 0 q1.2)
        else
          (f_X10_areYears_169 fu 0 0 q1.2))
      else
        (f_X10_areYears_37 (f_X10_areYears_29 n) fu x1 0 w)
def f_X10_areYears_2 : Nat → Int32 → Wd → Option (Int32 × Wd)
  | 0, _, _ => none
  | n + 1, x1, w => if 14 ≤ x1 then
        (f_X10_areYears_29 fu 0 w)
      else
        (Option.bind (f_X10_isThing x1 w) fun q1 =>
        if q1.1 = 0 then
          (f_X10_areYears_2 n (x1 + 1) q1.2)
        else
          (Option.bind (f_X10_beginYears x1 q1.2) fun q2 =>
          f_X10_areYears_2 n (x1 + 1) q2))
def f_X10_areYears (w : Wd) : Option (Int32 × Wd) := f_X10_areYears_2 fu 0 w
set_option maxRecDepth 100000 in
set_option maxHeartbeats 4000000 in
theorem v_X10_areYears_202 {d : Nat} (hd9 : 4 ≤ d) {X : bX} (hX : bOk cX10_areYears 4 RX10 d X) {r : (Int32 × Wd)} (hE : bEnd (some .boolean) (some (.int r.1)) r.2 X) {k169 : Int32 → Int32 → Wd → Option (Int32 × Wd)} (hk169 : ∀ (x1 : Int32) (x2 : Int32) (w : Wd), k169 x1 x2 w = some r → bV X 169 [some (.ref 33), some (.int x1), some (.int x2), none] [] w) : ∀ (x2 : Int32) (w : Wd), f_X10_areYears_202 k169 x2 w = some r → bV X 202 [some (.ref 33), none, some (.int x2), none] [] w := by
  intro x2 w hr
  obtain ⟨d, rfl⟩ : ∃ e, d = e + 1 := ⟨d - 1, by omega⟩
  unfold f_X10_areYears_202 at hr
  refine V_iconst hX dX10_areYears_202 ic_1 ?_
  refine V_goto (tgt := 207) hX dX10_areYears_203 (by decide) ?_
  refine V_istore_n hX dX10_areYears_207 rfl (Nat.le_of_ble_eq_true rfl) rfl ?_
  refine V_iinc hX dX10_areYears_208 rfl (ii_1 _) (Nat.le_of_ble_eq_true rfl) rfl ?_
  refine V_goto (tgt := 169) hX dX10_areYears_211 (by decide) ?_
  refine V_mask [true, true, true, false] ?_
  exact hk169 _ _ _ hr
set_option maxRecDepth 100000 in
set_option maxHeartbeats 4000000 in
theorem v_X10_areYears_97 {d : Nat} (hd9 : 4 ≤ d) {X : bX} (hX : bOk cX10_areYears 4 RX10 d X) {r : (Int32 × Wd)} (hE : bEnd (some .boolean) (some (.int r.1)) r.2 X) {k29 : Int32 → Wd → Option (Int32 × Wd)} {k37 : Int32 → Int32 → Wd → Option (Int32 × Wd)} {k45 : Int32 → Int32 → Int32 → Wd → Option (Int32 × Wd)} (hk29 : ∀ (x1 : Int32) (w : Wd), k29 x1 w = some r → bV X 29 [some (.ref 33), some (.int x1), none, none] [] w) (hk37 : ∀ (x1 : Int32) (x2 : Int32) (w : Wd), k37 x1 x2 w = some r → bV X 37 [some (.ref 33), some (.int x1), some (.int x2), none] [] w) (hk45 : ∀ (x1 : Int32) (x2 : Int32) (x3 : Int32) (w : Wd), k45 x1 x2 x3 w = some r → bV X 45 [some (.ref 33), some (.int x1), some (.int x2), some (.int x3)] [] w) : ∀ (s1 : Int32) (s2 : Int32) (x1 : Int32) (x2 : Int32) (x3 : Int32) (w : Wd), f_X10_areYears_97 k29 k37 k45 s1 s2 x1 x2 x3 w = some r → bV X 97 [some (.ref 33), some (.int x1), some (.int x2), some (.int x3)] [.int s2, .int s1, .ref 46] w := by
  intro s1 s2 x1 x2 x3 w hr
  obtain ⟨d, rfl⟩ : ∃ e, d = e + 1 := ⟨d - 1, by omega⟩
  unfold f_X10_areYears_97 at hr
  obtain ⟨hn97, hr⟩ := ifn hr
  refine V_iast hX (Nat.le_of_ble_eq_true rfl) lay_46 (inB_in hn97) dX10_areYears_97 ?_
  refine V_aload_n hX dX10_areYears_98 rfl rfl ?_
  refine G_RX10_56 hX dX10_areYears_99 ?_
  refine V_iload_n hX dX10_areYears_102 rfl rfl ?_
  refine V_aload_n hX dX10_areYears_103 rfl rfl ?_
  refine G_RX10_56 hX dX10_areYears_104 ?_
  refine V_iload_n hX dX10_areYears_107 rfl rfl ?_
  obtain ⟨hn108, hr⟩ := ifn hr
  refine V_iald hX (Nat.le_of_ble_eq_true rfl) lay_47 (inB_in hn108) dX10_areYears_108 ?_
  refine V_aload_n hX dX10_areYears_109 rfl rfl ?_
  refine G_RX10_56 hX dX10_areYears_110 ?_
  refine V_iload_n hX dX10_areYears_113 rfl rfl ?_
  obtain ⟨hn114, hr⟩ := ifn hr
  refine V_iald hX (Nat.le_of_ble_eq_true rfl) lay_47 (inB_in hn114) dX10_areYears_114 ?_
  refine V_icmp_ge (tgt := 127) hX dX10_areYears_115 (by decide) (fun h115 => ?_) (fun h115 => ?_)
  · rw [if_pos h115] at hr
    refine V_aload_n hX dX10_areYears_127 rfl rfl ?_
    refine G_RX10_56 hX dX10_areYears_128 ?_
    refine V_iload_n hX dX10_areYears_131 rfl rfl ?_
    obtain ⟨hn132, hr⟩ := ifn hr
    refine V_iald hX (Nat.le_of_ble_eq_true rfl) lay_47 (inB_in hn132) dX10_areYears_132 ?_
    refine V_iconst hX dX10_areYears_133 ic_1 ?_
    refine V_isub hX dX10_areYears_134 ?_
    obtain ⟨hn135, hr⟩ := ifn hr
    refine V_iast hX (Nat.le_of_ble_eq_true rfl) lay_47 (inB_in hn135) dX10_areYears_135 ?_
    refine V_iinc hX dX10_areYears_136 rfl (ii_1 _) (Nat.le_of_ble_eq_true rfl) rfl ?_
    refine V_goto (tgt := 45) hX dX10_areYears_139 (by decide) ?_
    refine V_mask [true, true, true, true] ?_
    exact hk45 _ _ _ _ hr
  · rw [if_neg h115] at hr
    refine V_aload_n hX dX10_areYears_118 rfl rfl ?_
    refine G_RX10_56 hX dX10_areYears_119 ?_
    refine V_iload_n hX dX10_areYears_122 rfl rfl ?_
    obtain ⟨hn123, hr⟩ := ifn hr
    refine V_iald hX (Nat.le_of_ble_eq_true rfl) lay_47 (inB_in hn123) dX10_areYears_123 ?_
    refine V_goto (tgt := 135) hX dX10_areYears_124 (by decide) ?_
    obtain ⟨hn135, hr⟩ := ifn hr
    refine V_iast hX (Nat.le_of_ble_eq_true rfl) lay_47 (inB_in hn135) dX10_areYears_135 ?_
    refine V_iinc hX dX10_areYears_136 rfl (ii_1 _) (Nat.le_of_ble_eq_true rfl) rfl ?_
    refine V_goto (tgt := 45) hX dX10_areYears_139 (by decide) ?_
    refine V_mask [true, true, true, true] ?_
    exact hk45 _ _ _ _ hr
set_option maxRecDepth 100000 in
set_option maxHeartbeats 4000000 in
theorem v_X10_areYears_169 {d : Nat} (hd9 : 4 ≤ d) {X : bX} (hX : bOk cX10_areYears 4 RX10 d X) {r : (Int32 × Wd)} (hE : bEnd (some .boolean) (some (.int r.1)) r.2 X) : ∀ (n : Nat) (x1 : Int32) (x2 : Int32) (w : Wd), f_X10_areYears_169 n x1 x2 w = some r → bV X 169 [some (.ref 33), some (.int x1), some (.int x2), none] [] w := by
  obtain ⟨d, rfl⟩ : ∃ e, d = e + 1 := ⟨d - 1, by omega⟩
  intro n
  induction n with
  | zero => intro x1 x2 w hr; exact absurd hr (by simp [f_X10_areYears_169])
  | succ n ih =>
    intro x1 x2 w hr
    rw [f_X10_areYears_169] at hr
    refine V_iload_n hX dX10_areYears_169 rfl rfl ?_
    refine V_bipush hX dX10_areYears_170 bp_14 ?_
    refine V_icmp_ge (tgt := 214) hX dX10_areYears_172 (by decide) (fun h172 => ?_) (fun h172 => ?_)
    · rw [if_pos h172] at hr
      refine V_iload_n hX dX10_areYears_214 rfl rfl ?_
      obtain ⟨hbo, hr⟩ := ifn hr
      cases hr
      exact V_iret hX hE (bo_nar hbo) dX10_areYears_215
    · rw [if_neg h172] at hr
      refine V_iload_n hX dX10_areYears_175 rfl rfl ?_
      refine V_if_eq (tgt := 206) hX dX10_areYears_176 (by decide) (fun h176 => ?_) (fun h176 => ?_)
      · rw [if_pos h176] at hr
        refine V_iconst hX dX10_areYears_206 ic_0 ?_
        refine V_istore_n hX dX10_areYears_207 rfl (Nat.le_of_ble_eq_true rfl) rfl ?_
        refine V_iinc hX dX10_areYears_208 rfl (ii_1 _) (Nat.le_of_ble_eq_true rfl) rfl ?_
        refine V_goto (tgt := 169) hX dX10_areYears_211 (by decide) ?_
        refine V_mask [true, true, true, false] ?_
        exact ih _ _ _ hr
      · rw [if_neg h176] at hr
        refine V_aload_n hX dX10_areYears_179 rfl rfl ?_
        refine V_iload_n hX dX10_areYears_180 rfl rfl ?_
        obtain ⟨q1, hq1, hr⟩ := bnd hr
        refine C_RX10_93 hX (c_X10_isThing (by omega) hq1) (Nat.le_of_ble_eq_true rfl) dX10_areYears_181 ?_
        refine V_if_eq (tgt := 202) hX dX10_areYears_184 (by decide) (fun h184 => ?_) (fun h184 => ?_)
        · rw [if_pos h184] at hr
          refine V_mask [true, false, true, false] ?_
          exact v_X10_areYears_202 hd9 hX hE ih _ _ hr
        · rw [if_neg h184] at hr
          refine V_aload_n hX dX10_areYears_187 rfl rfl ?_
          refine G_RX10_53 hX dX10_areYears_188 ?_
          refine V_iload_n hX dX10_areYears_191 rfl rfl ?_
          obtain ⟨hn192, hr⟩ := ifn hr
          refine V_iald hX (Nat.le_of_ble_eq_true rfl) lay_46 (inB_in hn192) dX10_areYears_192 ?_
          refine V_aload_n hX dX10_areYears_193 rfl rfl ?_
          refine G_RX10_56 hX dX10_areYears_194 ?_
          refine V_iload_n hX dX10_areYears_197 rfl rfl ?_
          obtain ⟨hn198, hr⟩ := ifn hr
          refine V_iald hX (Nat.le_of_ble_eq_true rfl) lay_47 (inB_in hn198) dX10_areYears_198 ?_
          refine V_icmp_gt (tgt := 206) hX dX10_areYears_199 (by decide) (fun h199 => ?_) (fun h199 => ?_)
          · rw [if_pos h199] at hr
            refine V_iconst hX dX10_areYears_206 ic_0 ?_
            refine V_istore_n hX dX10_areYears_207 rfl (Nat.le_of_ble_eq_true rfl) rfl ?_
            refine V_iinc hX dX10_areYears_208 rfl (ii_1 _) (Nat.le_of_ble_eq_true rfl) rfl ?_
            refine V_goto (tgt := 169) hX dX10_areYears_211 (by decide) ?_
            refine V_mask [true, true, true, false] ?_
            exact ih _ _ _ hr
          · rw [if_neg h199] at hr
            refine V_mask [true, false, true, false] ?_
            exact v_X10_areYears_202 hd9 hX hE ih _ _ hr
set_option maxRecDepth 100000 in
set_option maxHeartbeats 4000000 in
theorem v_X10_areYears_45 {d : Nat} (hd9 : 4 ≤ d) {X : bX} (hX : bOk cX10_areYears 4 RX10 d X) {r : (Int32 × Wd)} (hE : bEnd (some .boolean) (some (.int r.1)) r.2 X) {k29 : Int32 → Wd → Option (Int32 × Wd)} {k37 : Int32 → Int32 → Wd → Option (Int32 × Wd)} (hk29 : ∀ (x1 : Int32) (w : Wd), k29 x1 w = some r → bV X 29 [some (.ref 33), some (.int x1), none, none] [] w) (hk37 : ∀ (x1 : Int32) (x2 : Int32) (w : Wd), k37 x1 x2 w = some r → bV X 37 [some (.ref 33), some (.int x1), some (.int x2), none] [] w) : ∀ (n : Nat) (x1 : Int32) (x2 : Int32) (x3 : Int32) (w : Wd), f_X10_areYears_45 k29 k37 n x1 x2 x3 w = some r → bV X 45 [some (.ref 33), some (.int x1), some (.int x2), some (.int x3)] [] w := by
  obtain ⟨d, rfl⟩ : ∃ e, d = e + 1 := ⟨d - 1, by omega⟩
  intro n
  induction n with
  | zero => intro x1 x2 x3 w hr; exact absurd hr (by simp [f_X10_areYears_45])
  | succ n ih =>
    intro x1 x2 x3 w hr
    rw [f_X10_areYears_45] at hr
    refine V_iload_n hX dX10_areYears_45 rfl rfl ?_
    refine V_bipush hX dX10_areYears_46 bp_14 ?_
    refine V_icmp_ge (tgt := 142) hX dX10_areYears_48 (by decide) (fun h48 => ?_) (fun h48 => ?_)
    · rw [if_pos h48] at hr
      refine V_iinc hX dX10_areYears_142 rfl (ii_1 _) (Nat.le_of_ble_eq_true rfl) rfl ?_
      refine V_goto (tgt := 37) hX dX10_areYears_145 (by decide) ?_
      refine V_mask [true, true, true, false] ?_
      exact hk37 _ _ _ hr
    · rw [if_neg h48] at hr
      refine V_aload_n hX dX10_areYears_51 rfl rfl ?_
      refine V_iload_n hX dX10_areYears_52 rfl rfl ?_
      refine V_iload_n hX dX10_areYears_53 rfl rfl ?_
      obtain ⟨q1, hq1, hr⟩ := bnd hr
      refine C_RX10_218 hX (c_X10_isPair (by omega) hq1) (Nat.le_of_ble_eq_true rfl) dX10_areYears_54 ?_
      refine V_if_eq (tgt := 136) hX dX10_areYears_57 (by decide) (fun h57 => ?_) (fun h57 => ?_)
      · rw [if_pos h57] at hr
        refine V_iinc hX dX10_areYears_136 rfl (ii_1 _) (Nat.le_of_ble_eq_true rfl) rfl ?_
        refine V_goto (tgt := 45) hX dX10_areYears_139 (by decide) ?_
        refine V_mask [true, true, true, true] ?_
        exact ih _ _ _ _ hr
      · rw [if_neg h57] at hr
        refine V_aload_n hX dX10_areYears_60 rfl rfl ?_
        refine G_RX10_53 hX dX10_areYears_61 ?_
        refine V_iload_n hX dX10_areYears_64 rfl rfl ?_
        refine V_aload_n hX dX10_areYears_65 rfl rfl ?_
        refine G_RX10_53 hX dX10_areYears_66 ?_
        refine V_iload_n hX dX10_areYears_69 rfl rfl ?_
        obtain ⟨hn70, hr⟩ := ifn hr
        refine V_iald hX (Nat.le_of_ble_eq_true rfl) lay_46 (inB_in hn70) dX10_areYears_70 ?_
        refine V_aload_n hX dX10_areYears_71 rfl rfl ?_
        refine G_RX10_53 hX dX10_areYears_72 ?_
        refine V_iload_n hX dX10_areYears_75 rfl rfl ?_
        obtain ⟨hn76, hr⟩ := ifn hr
        refine V_iald hX (Nat.le_of_ble_eq_true rfl) lay_46 (inB_in hn76) dX10_areYears_76 ?_
        refine V_icmp_le (tgt := 89) hX dX10_areYears_77 (by decide) (fun h77 => ?_) (fun h77 => ?_)
        · rw [if_pos h77] at hr
          refine V_aload_n hX dX10_areYears_89 rfl rfl ?_
          refine G_RX10_53 hX dX10_areYears_90 ?_
          refine V_iload_n hX dX10_areYears_93 rfl rfl ?_
          obtain ⟨hn94, hr⟩ := ifn hr
          refine V_iald hX (Nat.le_of_ble_eq_true rfl) lay_46 (inB_in hn94) dX10_areYears_94 ?_
          refine V_iconst hX dX10_areYears_95 ic_1 ?_
          refine V_iadd hX dX10_areYears_96 ?_
          refine V_mask [true, true, true, true] ?_
          exact v_X10_areYears_97 hd9 hX hE hk29 hk37 ih _ _ _ _ _ _ hr
        · rw [if_neg h77] at hr
          refine V_aload_n hX dX10_areYears_80 rfl rfl ?_
          refine G_RX10_53 hX dX10_areYears_81 ?_
          refine V_iload_n hX dX10_areYears_84 rfl rfl ?_
          obtain ⟨hn85, hr⟩ := ifn hr
          refine V_iald hX (Nat.le_of_ble_eq_true rfl) lay_46 (inB_in hn85) dX10_areYears_85 ?_
          refine V_goto (tgt := 97) hX dX10_areYears_86 (by decide) ?_
          refine V_mask [true, true, true, true] ?_
          exact v_X10_areYears_97 hd9 hX hE hk29 hk37 ih _ _ _ _ _ _ hr
set_option maxRecDepth 100000 in
set_option maxHeartbeats 4000000 in
theorem v_X10_areYears_37 {d : Nat} (hd9 : 4 ≤ d) {X : bX} (hX : bOk cX10_areYears 4 RX10 d X) {r : (Int32 × Wd)} (hE : bEnd (some .boolean) (some (.int r.1)) r.2 X) {k29 : Int32 → Wd → Option (Int32 × Wd)} (hk29 : ∀ (x1 : Int32) (w : Wd), k29 x1 w = some r → bV X 29 [some (.ref 33), some (.int x1), none, none] [] w) : ∀ (n : Nat) (x1 : Int32) (x2 : Int32) (w : Wd), f_X10_areYears_37 k29 n x1 x2 w = some r → bV X 37 [some (.ref 33), some (.int x1), some (.int x2), none] [] w := by
  obtain ⟨d, rfl⟩ : ∃ e, d = e + 1 := ⟨d - 1, by omega⟩
  intro n
  induction n with
  | zero => intro x1 x2 w hr; exact absurd hr (by simp [f_X10_areYears_37])
  | succ n ih =>
    intro x1 x2 w hr
    rw [f_X10_areYears_37] at hr
    refine V_iload_n hX dX10_areYears_37 rfl rfl ?_
    refine V_bipush hX dX10_areYears_38 bp_14 ?_
    refine V_icmp_ge (tgt := 148) hX dX10_areYears_40 (by decide) (fun h40 => ?_) (fun h40 => ?_)
    · rw [if_pos h40] at hr
      refine V_iinc hX dX10_areYears_148 rfl (ii_1 _) (Nat.le_of_ble_eq_true rfl) rfl ?_
      refine V_goto (tgt := 29) hX dX10_areYears_151 (by decide) ?_
      refine V_mask [true, true, false, false] ?_
      exact hk29 _ _ hr
    · rw [if_neg h40] at hr
      refine V_iconst hX dX10_areYears_43 ic_0 ?_
      refine V_istore_n hX dX10_areYears_44 rfl (Nat.le_of_ble_eq_true rfl) rfl ?_
      refine V_mask [true, true, true, true] ?_
      exact v_X10_areYears_45 hd9 hX hE hk29 ih _ _ _ _ _ hr
set_option maxRecDepth 100000 in
set_option maxHeartbeats 4000000 in
theorem v_X10_areYears_29 {d : Nat} (hd9 : 4 ≤ d) {X : bX} (hX : bOk cX10_areYears 4 RX10 d X) {r : (Int32 × Wd)} (hE : bEnd (some .boolean) (some (.int r.1)) r.2 X) : ∀ (n : Nat) (x1 : Int32) (w : Wd), f_X10_areYears_29 n x1 w = some r → bV X 29 [some (.ref 33), some (.int x1), none, none] [] w := by
  obtain ⟨d, rfl⟩ : ∃ e, d = e + 1 := ⟨d - 1, by omega⟩
  intro n
  induction n with
  | zero => intro x1 w hr; exact absurd hr (by simp [f_X10_areYears_29])
  | succ n ih =>
    intro x1 w hr
    rw [f_X10_areYears_29] at hr
    refine V_iload_n hX dX10_areYears_29 rfl rfl ?_
    refine V_bipush hX dX10_areYears_30 bp_15 ?_
    refine V_icmp_ge (tgt := 154) hX dX10_areYears_32 (by decide) (fun h32 => ?_) (fun h32 => ?_)
    · rw [if_pos h32] at hr
      refine V_aload_n hX dX10_areYears_154 rfl rfl ?_
      obtain ⟨q1, hq1, hr⟩ := bnd hr
      refine C_RX10_222 hX (c_X10_ringOf (by omega) hq1) (Nat.le_of_ble_eq_true rfl) dX10_areYears_155 ?_
      refine V_if_ne (tgt := 165) hX dX10_areYears_158 (by decide) (fun h158 => ?_) (fun h158 => ?_)
      · rw [if_neg h158] at hr
        refine V_iconst hX dX10_areYears_165 ic_0 ?_
        refine V_istore_n hX dX10_areYears_166 rfl (Nat.le_of_ble_eq_true rfl) rfl ?_
        refine V_iconst hX dX10_areYears_167 ic_0 ?_
        refine V_istore_n hX dX10_areYears_168 rfl (Nat.le_of_ble_eq_true rfl) rfl ?_
        refine V_mask [true, true, true, false] ?_
        exact v_X10_areYears_169 hd9 hX hE _ _ _ _ hr
      · rw [if_pos h158] at hr
        refine V_iconst hX dX10_areYears_161 ic_1 ?_
        refine V_goto (tgt := 166) hX dX10_areYears_162 (by decide) ?_
        refine V_istore_n hX dX10_areYears_166 rfl (Nat.le_of_ble_eq_true rfl) rfl ?_
        refine V_iconst hX dX10_areYears_167 ic_0 ?_
        refine V_istore_n hX dX10_areYears_168 rfl (Nat.le_of_ble_eq_true rfl) rfl ?_
        refine V_mask [true, true, true, false] ?_
        exact v_X10_areYears_169 hd9 hX hE _ _ _ _ hr
    · rw [if_neg h32] at hr
      refine V_iconst hX dX10_areYears_35 ic_0 ?_
      refine V_istore_n hX dX10_areYears_36 rfl (Nat.le_of_ble_eq_true rfl) rfl ?_
      refine V_mask [true, true, true, false] ?_
      exact v_X10_areYears_37 hd9 hX hE ih _ _ _ _ hr
set_option maxRecDepth 100000 in
set_option maxHeartbeats 4000000 in
theorem v_X10_areYears_2 {d : Nat} (hd9 : 4 ≤ d) {X : bX} (hX : bOk cX10_areYears 4 RX10 d X) {r : (Int32 × Wd)} (hE : bEnd (some .boolean) (some (.int r.1)) r.2 X) : ∀ (n : Nat) (x1 : Int32) (w : Wd), f_X10_areYears_2 n x1 w = some r → bV X 2 [some (.ref 33), some (.int x1), none, none] [] w := by
  obtain ⟨d, rfl⟩ : ∃ e, d = e + 1 := ⟨d - 1, by omega⟩
  intro n
  induction n with
  | zero => intro x1 w hr; exact absurd hr (by simp [f_X10_areYears_2])
  | succ n ih =>
    intro x1 w hr
    rw [f_X10_areYears_2] at hr
    refine V_iload_n hX dX10_areYears_2 rfl rfl ?_
    refine V_bipush hX dX10_areYears_3 bp_14 ?_
    refine V_icmp_ge (tgt := 27) hX dX10_areYears_5 (by decide) (fun h5 => ?_) (fun h5 => ?_)
    · rw [if_pos h5] at hr
      refine V_iconst hX dX10_areYears_27 ic_0 ?_
      refine V_istore_n hX dX10_areYears_28 rfl (Nat.le_of_ble_eq_true rfl) rfl ?_
      refine V_mask [true, true, false, false] ?_
      exact v_X10_areYears_29 hd9 hX hE _ _ _ hr
    · rw [if_neg h5] at hr
      refine V_aload_n hX dX10_areYears_8 rfl rfl ?_
      refine V_iload_n hX dX10_areYears_9 rfl rfl ?_
      obtain ⟨q1, hq1, hr⟩ := bnd hr
      refine C_RX10_93 hX (c_X10_isThing (by omega) hq1) (Nat.le_of_ble_eq_true rfl) dX10_areYears_10 ?_
      refine V_if_eq (tgt := 21) hX dX10_areYears_13 (by decide) (fun h13 => ?_) (fun h13 => ?_)
      · rw [if_pos h13] at hr
        refine V_iinc hX dX10_areYears_21 rfl (ii_1 _) (Nat.le_of_ble_eq_true rfl) rfl ?_
        refine V_goto (tgt := 2) hX dX10_areYears_24 (by decide) ?_
        refine V_mask [true, true, false, false] ?_
        exact ih _ _ hr
      · rw [if_neg h13] at hr
        refine V_aload_n hX dX10_areYears_16 rfl rfl ?_
        refine V_iload_n hX dX10_areYears_17 rfl rfl ?_
        obtain ⟨q2, hq2, hr⟩ := bnd hr
        refine C_RX10_215 hX (c_X10_beginYears (by omega) hq2) (Nat.le_of_ble_eq_true rfl) dX10_areYears_18 ?_
        refine V_iinc hX dX10_areYears_21 rfl (ii_1 _) (Nat.le_of_ble_eq_true rfl) rfl ?_
        refine V_goto (tgt := 2) hX dX10_areYears_24 (by decide) ?_
        refine V_mask [true, true, false, false] ?_
        exact ih _ _ hr
set_option maxRecDepth 100000 in
set_option maxHeartbeats 4000000 in
theorem c_X10_areYears {d : Nat} (hd9 : 4 ≤ d) {w : Wd} {r : (Int32 × Wd)} (hr : f_X10_areYears w = some r) : Con d yX10_areYears cX10_areYears 4 (some .boolean) [.ref 33] w (some (.int r.1)) r.2 := by
  refine Con_of (by decide) (Nat.le_of_ble_eq_true rfl) (fun X hX hE => ?_)
  have hX : bOk cX10_areYears 4 RX10 d X := hX
  show bV X 0 [some (.ref 33), none, none, none] [] w
  obtain ⟨d, rfl⟩ : ∃ e, d = e + 1 := ⟨d - 1, by omega⟩
  unfold f_X10_areYears at hr
  refine V_iconst hX dX10_areYears_0 ic_0 ?_
  refine V_istore_n hX dX10_areYears_1 rfl (Nat.le_of_ble_eq_true rfl) rfl ?_
  refine V_mask [true, true, false, false] ?_
  exact v_X10_areYears_2 hd9 hX hE _ _ _ hr
def f_X10_span (p0 : Int32) (p1 : Int32) (w : Wd) : Option (Int32 × Wd) := Option.bind (f_X10_isThing p0 w) fun q1 =>
    if q1.1 = 0 then
      (some ((-2), q1.2))
    else
      (Option.bind (f_X10_in p1 0 1 q1.2) fun q2 =>
      if q2.1 = 0 then
        (some ((-3), q2.2))
      else
        (Option.bind (f_X10_areYears q2.2) fun q3 =>
        if q3.1 = 0 then
          (some ((-1), q3.2))
        else
          (if p1 = 0 then
            (if inB p0 14 then (some ((q3.2.1 46 (ix p0)), q3.2)) else none)
          else
            (if inB p0 14 then (some ((q3.2.1 47 (ix p0)), q3.2)) else none))))
set_option maxRecDepth 100000 in
set_option maxHeartbeats 4000000 in
theorem c_X10_span {d : Nat} (hd9 : 5 ≤ d) {p0 : Int32} {p1 : Int32} {w : Wd} {r : (Int32 × Wd)} (hr : f_X10_span p0 p1 w = some r) : Con d yX10_span cX10_span 3 (some .int) [.ref 33, .int p0, .int p1] w (some (.int r.1)) r.2 := by
  refine Con_of (by decide) (Nat.le_of_ble_eq_true rfl) (fun X hX hE => ?_)
  have hX : bOk cX10_span 3 RX10 d X := hX
  show bV X 0 [some (.ref 33), some (.int p0), some (.int p1)] [] w
  obtain ⟨d, rfl⟩ : ∃ e, d = e + 1 := ⟨d - 1, by omega⟩
  unfold f_X10_span at hr
  refine V_aload_n hX dX10_span_0 rfl rfl ?_
  refine V_iload_n hX dX10_span_1 rfl rfl ?_
  obtain ⟨q1, hq1, hr⟩ := bnd hr
  refine C_RX10_93 hX (c_X10_isThing (by omega) hq1) (Nat.le_of_ble_eq_true rfl) dX10_span_2 ?_
  refine V_if_ne (tgt := 11) hX dX10_span_5 (by decide) (fun h5 => ?_) (fun h5 => ?_)
  · rw [if_neg h5] at hr
    refine V_iload_n hX dX10_span_11 rfl rfl ?_
    refine V_iconst hX dX10_span_12 ic_0 ?_
    refine V_iconst hX dX10_span_13 ic_1 ?_
    obtain ⟨q2, hq2, hr⟩ := bnd hr
    refine C_RX10_86 hX (c_X10_in (by omega) hq2) (Nat.le_of_ble_eq_true rfl) dX10_span_14 ?_
    refine V_if_ne (tgt := 23) hX dX10_span_17 (by decide) (fun h17 => ?_) (fun h17 => ?_)
    · rw [if_neg h17] at hr
      refine V_aload_n hX dX10_span_23 rfl rfl ?_
      obtain ⟨q3, hq3, hr⟩ := bnd hr
      refine C_RX10_226 hX (c_X10_areYears (by omega) hq3) (Nat.le_of_ble_eq_true rfl) dX10_span_24 ?_
      refine V_if_ne (tgt := 34) hX dX10_span_27 (by decide) (fun h27 => ?_) (fun h27 => ?_)
      · rw [if_neg h27] at hr
        refine V_iload_n hX dX10_span_34 rfl rfl ?_
        refine V_if_ne (tgt := 47) hX dX10_span_35 (by decide) (fun h35 => ?_) (fun h35 => ?_)
        · rw [if_neg h35] at hr
          refine V_aload_n hX dX10_span_47 rfl rfl ?_
          refine G_RX10_56 hX dX10_span_48 ?_
          refine V_iload_n hX dX10_span_51 rfl rfl ?_
          obtain ⟨hn52, hr⟩ := ifn hr
          refine V_iald hX (Nat.le_of_ble_eq_true rfl) lay_47 (inB_in hn52) dX10_span_52 ?_
          cases hr
          exact V_iret hX hE rfl dX10_span_53
        · rw [if_pos h35] at hr
          refine V_aload_n hX dX10_span_38 rfl rfl ?_
          refine G_RX10_53 hX dX10_span_39 ?_
          refine V_iload_n hX dX10_span_42 rfl rfl ?_
          obtain ⟨hn43, hr⟩ := ifn hr
          refine V_iald hX (Nat.le_of_ble_eq_true rfl) lay_46 (inB_in hn43) dX10_span_43 ?_
          refine V_goto (tgt := 53) hX dX10_span_44 (by decide) ?_
          cases hr
          exact V_iret hX hE rfl dX10_span_53
      · rw [if_pos h27] at hr
        refine V_iconst hX dX10_span_30 ic_m1 ?_
        refine V_goto (tgt := 53) hX dX10_span_31 (by decide) ?_
        cases hr
        exact V_iret hX hE rfl dX10_span_53
    · rw [if_pos h17] at hr
      refine V_bipush hX dX10_span_20 bp_m3 ?_
      cases hr
      exact V_iret hX hE rfl dX10_span_22
  · rw [if_pos h5] at hr
    refine V_bipush hX dX10_span_8 bp_m2 ?_
    cases hr
    exact V_iret hX hE rfl dX10_span_10
def f_X10_ring (w : Wd) : Option (Int32 × Wd) := Option.bind (f_X10_ringOf w) fun q1 =>
    some (q1.1, q1.2)
set_option maxRecDepth 100000 in
set_option maxHeartbeats 4000000 in
theorem c_X10_ring {d : Nat} (hd9 : 4 ≤ d) {w : Wd} {r : (Int32 × Wd)} (hr : f_X10_ring w = some r) : Con d yX10_ring cX10_ring 1 (some .int) [.ref 33] w (some (.int r.1)) r.2 := by
  refine Con_of (by decide) (Nat.le_of_ble_eq_true rfl) (fun X hX hE => ?_)
  have hX : bOk cX10_ring 1 RX10 d X := hX
  show bV X 0 [some (.ref 33)] [] w
  obtain ⟨d, rfl⟩ : ∃ e, d = e + 1 := ⟨d - 1, by omega⟩
  unfold f_X10_ring at hr
  refine V_aload_n hX dX10_ring_0 rfl rfl ?_
  obtain ⟨q1, hq1, hr⟩ := bnd hr
  refine C_RX10_222 hX (c_X10_ringOf (by omega) hq1) (Nat.le_of_ble_eq_true rfl) dX10_ring_1 ?_
  cases hr
  exact V_iret hX hE rfl dX10_ring_4
def f_X10_stack_238 (k221 : Int32 → Int32 → Int32 → Wd → Option (Int32 × Wd)) : Nat → Int32 → Int32 → Int32 → Int32 → Int32 → Wd → Option (Int32 × Wd)
  | 0, _, _, _, _, _, _ => none
  | n + 1, x1, x2, x3, x4, x5, w => if x5 < 0 then
        (k221 x1 x4 (x3 + 1) w)
      else
        (Option.bind (f_X10_isPair x2 x5 w) fun q1 =>
        if q1.1 = 0 then
          (f_X10_stack_238 k221 n x1 x2 x3 x4 (x5 + (-1)) q1.2)
        else
          (if inB x5 14 then (if inB x2 14 then (if ((q1.2.1 48 (ix x5)) + 1) = (q1.2.1 48 (ix x2)) then
            (f_X10_stack_238 k221 n x1 x2 x3 x5 (x5 + (-1)) q1.2)
          else
            (f_X10_stack_238 k221 n x1 x2 x3 x4 (x5 + (-1)) q1.2)) else none) else none))
def f_X10_stack_183 (k156 : Int32 → Int32 → Int32 → Wd → Option (Int32 × Wd)) (s0 : Int32) (s1 : Int32) (x1 : Int32) (x2 : Int32) (x3 : Int32) (w : Wd) : Option (Int32 × Wd) := if s0 ≤ s1 then
      (k156 x1 x2 (x3 + 1) w)
    else
      (k156 x1 x3 (x3 + 1) w)
def f_X10_stack_128 (k54 : Int32 → Int32 → Int32 → Wd → Option (Int32 × Wd)) (k63 : Int32 → Int32 → Int32 → Int32 → Wd → Option (Int32 × Wd)) (k73 : Int32 → Int32 → Int32 → Int32 → Int32 → Wd → Option (Int32 × Wd)) (s1 : Int32) (x1 : Int32) (x2 : Int32) (x3 : Int32) (x4 : Int32) (x5 : Int32) (w : Wd) : Option (Int32 × Wd) := if inB x4 14 then (if inB s1 14 then (k73 x1 x2 x3 x4 (x5 + 1) (wS w 48 (ix s1) (w.1 48 (ix x4)))) else none) else none
def f_X10_stack_221 : Nat → Int32 → Int32 → Int32 → Wd → Option (Int32 × Wd)
  | 0, _, _, _, _ => none
  | n + 1, x1, x2, x3, w => if x1 ≤ x3 then
        (some (x2, w))
      else
        (if x2 = (-1) then
          (some (x2, w))
        else
          (f_X10_stack_238 (f_X10_stack_221 n) fu x1 x2 x3 (-1) 13 w))
def f_X10_stack_73 (k54 : Int32 → Int32 → Int32 → Wd → Option (Int32 × Wd)) (k63 : Int32 → Int32 → Int32 → Int32 → Wd → Option (Int32 × Wd)) : Nat → Int32 → Int32 → Int32 → Int32 → Int32 → Wd → Option (Int32 × Wd)
  | 0, _, _, _, _, _, _ => none
  | n + 1, x1, x2, x3, x4, x5, w => if 14 ≤ x5 then
        (k63 x1 x2 x3 (x4 + 1) w)
      else
        (Option.bind (f_X10_isPair x4 x5 w) fun q1 =>
        if q1.1 = 0 then
          (f_X10_stack_128 k54 k63 (f_X10_stack_73 k54 k63 n) x4 x1 x2 x3 x4 x5 q1.2)
        else
          (if inB x5 14 then (if inB x4 14 then (if ((q1.2.1 48 (ix x5)) + 1) ≤ (q1.2.1 48 (ix x4)) then
            (f_X10_stack_128 k54 k63 (f_X10_stack_73 k54 k63 n) x4 x1 x2 x3 x4 x5 q1.2)
          else
            (if inB x5 14 then (if inB x4 14 then (f_X10_stack_73 k54 k63 n x1 x2 x3 x4 (x5 + 1) (wS q1.2 48 (ix x4) ((q1.2.1 48 (ix x5)) + 1))) else none) else none)) else none) else none))
def f_X10_stack_156 : Nat → Int32 → Int32 → Int32 → Wd → Option (Int32 × Wd)
  | 0, _, _, _, _ => none
  | n + 1, x1, x2, x3, w => if 14 ≤ x3 then
        (if x1 = (-1) then
          (if x2 = (-1) then
            (some (0, w))
          else
            (if inB x2 14 then (some ((w.1 48 (ix x2)), w)) else none))
        else
          (f_X10_stack_221 fu x1 x2 0 w))
      else
        (if inB x3 14 then (if x2 = (-1) then
          (f_X10_stack_183 (f_X10_stack_156 n) (w.1 48 (ix x3)) 0 x1 x2 x3 w)
        else
          (if inB x2 14 then (f_X10_stack_183 (f_X10_stack_156 n) (w.1 48 (ix x3)) (w.1 48 (ix x2)) x1 x2 x3 w) else none)) else none)
def f_X10_stack_63 (k54 : Int32 → Int32 → Int32 → Wd → Option (Int32 × Wd)) : Nat → Int32 → Int32 → Int32 → Int32 → Wd → Option (Int32 × Wd)
  | 0, _, _, _, _, _ => none
  | n + 1, x1, x2, x3, x4, w => if 14 ≤ x4 then
        (k54 x1 x2 (x3 + 1) w)
      else
        (f_X10_stack_73 k54 (f_X10_stack_63 k54 n) fu x1 x2 x3 x4 0 w)
def f_X10_stack_54 : Nat → Int32 → Int32 → Int32 → Wd → Option (Int32 × Wd)
  | 0, _, _, _, _ => none
  | n + 1, x1, x2, x3, w => if 14 ≤ x3 then
        (f_X10_stack_156 fu x1 x2 0 w)
      else
        (f_X10_stack_63 (f_X10_stack_54 n) fu x1 x2 x3 0 w)
def f_X10_stack_21 : Nat → Int32 → Int32 → Int32 → Wd → Option (Int32 × Wd)
  | 0, _, _, _, _ => none
  | n + 1, x1, x2, x3, w => if 14 ≤ x3 then
        (f_X10_stack_54 fu x1 x2 0 w)
      else
        (Option.bind (f_X10_isThing x3 w) fun q1 =>
        if q1.1 = 0 then
          (if inB x3 14 then (f_X10_stack_21 n x1 x2 (x3 + 1) (wS q1.2 48 (ix x3) 0)) else none)
        else
          (if inB x3 14 then (f_X10_stack_21 n x1 x2 (x3 + 1) (wS q1.2 48 (ix x3) 1)) else none))
def f_X10_stack (p0 : Int32) (w : Wd) : Option (Int32 × Wd) := if (-1) ≤ p0 then
      (Option.bind (f_X10_ringOf w) fun q1 =>
      if q1.1 = 0 then
        (f_X10_stack_21 fu p0 (-1) 0 q1.2)
      else
        (some ((-1), q1.2)))
    else
      (some ((-3), w))
set_option maxRecDepth 100000 in
set_option maxHeartbeats 4000000 in
theorem v_X10_stack_238 {d : Nat} (hd9 : 4 ≤ d) {X : bX} (hX : bOk cX10_stack 6 RX10 d X) {r : (Int32 × Wd)} (hE : bEnd (some .int) (some (.int r.1)) r.2 X) {k221 : Int32 → Int32 → Int32 → Wd → Option (Int32 × Wd)} (hk221 : ∀ (x1 : Int32) (x2 : Int32) (x3 : Int32) (w : Wd), k221 x1 x2 x3 w = some r → bV X 221 [some (.ref 33), some (.int x1), some (.int x2), some (.int x3), none, none] [] w) : ∀ (n : Nat) (x1 : Int32) (x2 : Int32) (x3 : Int32) (x4 : Int32) (x5 : Int32) (w : Wd), f_X10_stack_238 k221 n x1 x2 x3 x4 x5 w = some r → bV X 238 [some (.ref 33), some (.int x1), some (.int x2), some (.int x3), some (.int x4), some (.int x5)] [] w := by
  obtain ⟨d, rfl⟩ : ∃ e, d = e + 1 := ⟨d - 1, by omega⟩
  intro n
  induction n with
  | zero => intro x1 x2 x3 x4 x5 w hr; exact absurd hr (by simp [f_X10_stack_238])
  | succ n ih =>
    intro x1 x2 x3 x4 x5 w hr
    rw [f_X10_stack_238] at hr
    refine V_iload hX dX10_stack_238 rfl ?_
    refine V_if_lt (tgt := 286) hX dX10_stack_240 (by decide) (fun h240 => ?_) (fun h240 => ?_)
    · rw [if_pos h240] at hr
      refine V_iload hX dX10_stack_286 rfl ?_
      refine V_istore_n hX dX10_stack_288 rfl (Nat.le_of_ble_eq_true rfl) rfl ?_
      refine V_iinc hX dX10_stack_289 rfl (ii_1 _) (Nat.le_of_ble_eq_true rfl) rfl ?_
      refine V_goto (tgt := 221) hX dX10_stack_292 (by decide) ?_
      refine V_mask [true, true, true, true, false, false] ?_
      exact hk221 _ _ _ _ hr
    · rw [if_neg h240] at hr
      refine V_aload_n hX dX10_stack_243 rfl rfl ?_
      refine V_iload_n hX dX10_stack_244 rfl rfl ?_
      refine V_iload hX dX10_stack_245 rfl ?_
      obtain ⟨q1, hq1, hr⟩ := bnd hr
      refine C_RX10_218 hX (c_X10_isPair (by omega) hq1) (Nat.le_of_ble_eq_true rfl) dX10_stack_247 ?_
      refine V_if_eq (tgt := 276) hX dX10_stack_250 (by decide) (fun h250 => ?_) (fun h250 => ?_)
      · rw [if_pos h250] at hr
        refine V_iload hX dX10_stack_276 rfl ?_
        refine V_istore hX dX10_stack_278 (Nat.le_of_ble_eq_true rfl) rfl ?_
        refine V_iinc hX dX10_stack_280 rfl (ii_m1 _) (Nat.le_of_ble_eq_true rfl) rfl ?_
        refine V_goto (tgt := 238) hX dX10_stack_283 (by decide) ?_
        refine V_mask [true, true, true, true, true, true] ?_
        exact ih _ _ _ _ _ _ hr
      · rw [if_neg h250] at hr
        refine V_aload_n hX dX10_stack_253 rfl rfl ?_
        refine G_RX10_59 hX dX10_stack_254 ?_
        refine V_iload hX dX10_stack_257 rfl ?_
        obtain ⟨hn259, hr⟩ := ifn hr
        refine V_iald hX (Nat.le_of_ble_eq_true rfl) lay_48 (inB_in hn259) dX10_stack_259 ?_
        refine V_iconst hX dX10_stack_260 ic_1 ?_
        refine V_iadd hX dX10_stack_261 ?_
        refine V_aload_n hX dX10_stack_262 rfl rfl ?_
        refine G_RX10_59 hX dX10_stack_263 ?_
        refine V_iload_n hX dX10_stack_266 rfl rfl ?_
        obtain ⟨hn267, hr⟩ := ifn hr
        refine V_iald hX (Nat.le_of_ble_eq_true rfl) lay_48 (inB_in hn267) dX10_stack_267 ?_
        refine V_icmp_ne (tgt := 276) hX dX10_stack_268 (by decide) (fun h268 => ?_) (fun h268 => ?_)
        · rw [if_neg h268] at hr
          refine V_iload hX dX10_stack_276 rfl ?_
          refine V_istore hX dX10_stack_278 (Nat.le_of_ble_eq_true rfl) rfl ?_
          refine V_iinc hX dX10_stack_280 rfl (ii_m1 _) (Nat.le_of_ble_eq_true rfl) rfl ?_
          refine V_goto (tgt := 238) hX dX10_stack_283 (by decide) ?_
          refine V_mask [true, true, true, true, true, true] ?_
          exact ih _ _ _ _ _ _ hr
        · rw [if_pos h268] at hr
          refine V_iload hX dX10_stack_271 rfl ?_
          refine V_goto (tgt := 278) hX dX10_stack_273 (by decide) ?_
          refine V_istore hX dX10_stack_278 (Nat.le_of_ble_eq_true rfl) rfl ?_
          refine V_iinc hX dX10_stack_280 rfl (ii_m1 _) (Nat.le_of_ble_eq_true rfl) rfl ?_
          refine V_goto (tgt := 238) hX dX10_stack_283 (by decide) ?_
          refine V_mask [true, true, true, true, true, true] ?_
          exact ih _ _ _ _ _ _ hr
set_option maxRecDepth 100000 in
set_option maxHeartbeats 4000000 in
theorem v_X10_stack_183 {d : Nat} (hd9 : 4 ≤ d) {X : bX} (hX : bOk cX10_stack 6 RX10 d X) {r : (Int32 × Wd)} (hE : bEnd (some .int) (some (.int r.1)) r.2 X) {k156 : Int32 → Int32 → Int32 → Wd → Option (Int32 × Wd)} (hk156 : ∀ (x1 : Int32) (x2 : Int32) (x3 : Int32) (w : Wd), k156 x1 x2 x3 w = some r → bV X 156 [some (.ref 33), some (.int x1), some (.int x2), some (.int x3), none, none] [] w) : ∀ (s0 : Int32) (s1 : Int32) (x1 : Int32) (x2 : Int32) (x3 : Int32) (w : Wd), f_X10_stack_183 k156 s0 s1 x1 x2 x3 w = some r → bV X 183 [some (.ref 33), some (.int x1), some (.int x2), some (.int x3), none, none] [.int s1, .int s0] w := by
  intro s0 s1 x1 x2 x3 w hr
  obtain ⟨d, rfl⟩ : ∃ e, d = e + 1 := ⟨d - 1, by omega⟩
  unfold f_X10_stack_183 at hr
  refine V_icmp_le (tgt := 190) hX dX10_stack_183 (by decide) (fun h183 => ?_) (fun h183 => ?_)
  · rw [if_pos h183] at hr
    refine V_iload_n hX dX10_stack_190 rfl rfl ?_
    refine V_istore_n hX dX10_stack_191 rfl (Nat.le_of_ble_eq_true rfl) rfl ?_
    refine V_iinc hX dX10_stack_192 rfl (ii_1 _) (Nat.le_of_ble_eq_true rfl) rfl ?_
    refine V_goto (tgt := 156) hX dX10_stack_195 (by decide) ?_
    refine V_mask [true, true, true, true, false, false] ?_
    exact hk156 _ _ _ _ hr
  · rw [if_neg h183] at hr
    refine V_iload_n hX dX10_stack_186 rfl rfl ?_
    refine V_goto (tgt := 191) hX dX10_stack_187 (by decide) ?_
    refine V_istore_n hX dX10_stack_191 rfl (Nat.le_of_ble_eq_true rfl) rfl ?_
    refine V_iinc hX dX10_stack_192 rfl (ii_1 _) (Nat.le_of_ble_eq_true rfl) rfl ?_
    refine V_goto (tgt := 156) hX dX10_stack_195 (by decide) ?_
    refine V_mask [true, true, true, true, false, false] ?_
    exact hk156 _ _ _ _ hr
set_option maxRecDepth 100000 in
set_option maxHeartbeats 4000000 in
theorem v_X10_stack_128 {d : Nat} (hd9 : 4 ≤ d) {X : bX} (hX : bOk cX10_stack 6 RX10 d X) {r : (Int32 × Wd)} (hE : bEnd (some .int) (some (.int r.1)) r.2 X) {k54 : Int32 → Int32 → Int32 → Wd → Option (Int32 × Wd)} {k63 : Int32 → Int32 → Int32 → Int32 → Wd → Option (Int32 × Wd)} {k73 : Int32 → Int32 → Int32 → Int32 → Int32 → Wd → Option (Int32 × Wd)} (hk54 : ∀ (x1 : Int32) (x2 : Int32) (x3 : Int32) (w : Wd), k54 x1 x2 x3 w = some r → bV X 54 [some (.ref 33), some (.int x1), some (.int x2), some (.int x3), none, none] [] w) (hk63 : ∀ (x1 : Int32) (x2 : Int32) (x3 : Int32) (x4 : Int32) (w : Wd), k63 x1 x2 x3 x4 w = some r → bV X 63 [some (.ref 33), some (.int x1), some (.int x2), some (.int x3), some (.int x4), none] [] w) (hk73 : ∀ (x1 : Int32) (x2 : Int32) (x3 : Int32) (x4 : Int32) (x5 : Int32) (w : Wd), k73 x1 x2 x3 x4 x5 w = some r → bV X 73 [some (.ref 33), some (.int x1), some (.int x2), some (.int x3), some (.int x4), some (.int x5)] [] w) : ∀ (s1 : Int32) (x1 : Int32) (x2 : Int32) (x3 : Int32) (x4 : Int32) (x5 : Int32) (w : Wd), f_X10_stack_128 k54 k63 k73 s1 x1 x2 x3 x4 x5 w = some r → bV X 128 [some (.ref 33), some (.int x1), some (.int x2), some (.int x3), some (.int x4), some (.int x5)] [.int s1, .ref 48] w := by
  intro s1 x1 x2 x3 x4 x5 w hr
  obtain ⟨d, rfl⟩ : ∃ e, d = e + 1 := ⟨d - 1, by omega⟩
  unfold f_X10_stack_128 at hr
  refine V_aload_n hX dX10_stack_128 rfl rfl ?_
  refine G_RX10_59 hX dX10_stack_129 ?_
  refine V_iload hX dX10_stack_132 rfl ?_
  obtain ⟨hn134, hr⟩ := ifn hr
  refine V_iald hX (Nat.le_of_ble_eq_true rfl) lay_48 (inB_in hn134) dX10_stack_134 ?_
  obtain ⟨hn135, hr⟩ := ifn hr
  refine V_iast hX (Nat.le_of_ble_eq_true rfl) lay_48 (inB_in hn135) dX10_stack_135 ?_
  refine V_iinc hX dX10_stack_136 rfl (ii_1 _) (Nat.le_of_ble_eq_true rfl) rfl ?_
  refine V_goto (tgt := 73) hX dX10_stack_139 (by decide) ?_
  refine V_mask [true, true, true, true, true, true] ?_
  exact hk73 _ _ _ _ _ _ hr
set_option maxRecDepth 100000 in
set_option maxHeartbeats 4000000 in
theorem v_X10_stack_221 {d : Nat} (hd9 : 4 ≤ d) {X : bX} (hX : bOk cX10_stack 6 RX10 d X) {r : (Int32 × Wd)} (hE : bEnd (some .int) (some (.int r.1)) r.2 X) : ∀ (n : Nat) (x1 : Int32) (x2 : Int32) (x3 : Int32) (w : Wd), f_X10_stack_221 n x1 x2 x3 w = some r → bV X 221 [some (.ref 33), some (.int x1), some (.int x2), some (.int x3), none, none] [] w := by
  obtain ⟨d, rfl⟩ : ∃ e, d = e + 1 := ⟨d - 1, by omega⟩
  intro n
  induction n with
  | zero => intro x1 x2 x3 w hr; exact absurd hr (by simp [f_X10_stack_221])
  | succ n ih =>
    intro x1 x2 x3 w hr
    rw [f_X10_stack_221] at hr
    refine V_iload_n hX dX10_stack_221 rfl rfl ?_
    refine V_iload_n hX dX10_stack_222 rfl rfl ?_
    refine V_icmp_ge (tgt := 295) hX dX10_stack_223 (by decide) (fun h223 => ?_) (fun h223 => ?_)
    · rw [if_pos h223] at hr
      refine V_iload_n hX dX10_stack_295 rfl rfl ?_
      cases hr
      exact V_iret hX hE rfl dX10_stack_296
    · rw [if_neg h223] at hr
      refine V_iload_n hX dX10_stack_226 rfl rfl ?_
      refine V_iconst hX dX10_stack_227 ic_m1 ?_
      refine V_icmp_eq (tgt := 295) hX dX10_stack_228 (by decide) (fun h228 => ?_) (fun h228 => ?_)
      · rw [if_pos h228] at hr
        refine V_iload_n hX dX10_stack_295 rfl rfl ?_
        cases hr
        exact V_iret hX hE rfl dX10_stack_296
      · rw [if_neg h228] at hr
        refine V_iconst hX dX10_stack_231 ic_m1 ?_
        refine V_istore hX dX10_stack_232 (Nat.le_of_ble_eq_true rfl) rfl ?_
        refine V_bipush hX dX10_stack_234 bp_13 ?_
        refine V_istore hX dX10_stack_236 (Nat.le_of_ble_eq_true rfl) rfl ?_
        refine V_mask [true, true, true, true, true, true] ?_
        exact v_X10_stack_238 hd9 hX hE ih _ _ _ _ _ _ _ hr
set_option maxRecDepth 100000 in
set_option maxHeartbeats 4000000 in
theorem v_X10_stack_73 {d : Nat} (hd9 : 4 ≤ d) {X : bX} (hX : bOk cX10_stack 6 RX10 d X) {r : (Int32 × Wd)} (hE : bEnd (some .int) (some (.int r.1)) r.2 X) {k54 : Int32 → Int32 → Int32 → Wd → Option (Int32 × Wd)} {k63 : Int32 → Int32 → Int32 → Int32 → Wd → Option (Int32 × Wd)} (hk54 : ∀ (x1 : Int32) (x2 : Int32) (x3 : Int32) (w : Wd), k54 x1 x2 x3 w = some r → bV X 54 [some (.ref 33), some (.int x1), some (.int x2), some (.int x3), none, none] [] w) (hk63 : ∀ (x1 : Int32) (x2 : Int32) (x3 : Int32) (x4 : Int32) (w : Wd), k63 x1 x2 x3 x4 w = some r → bV X 63 [some (.ref 33), some (.int x1), some (.int x2), some (.int x3), some (.int x4), none] [] w) : ∀ (n : Nat) (x1 : Int32) (x2 : Int32) (x3 : Int32) (x4 : Int32) (x5 : Int32) (w : Wd), f_X10_stack_73 k54 k63 n x1 x2 x3 x4 x5 w = some r → bV X 73 [some (.ref 33), some (.int x1), some (.int x2), some (.int x3), some (.int x4), some (.int x5)] [] w := by
  obtain ⟨d, rfl⟩ : ∃ e, d = e + 1 := ⟨d - 1, by omega⟩
  intro n
  induction n with
  | zero => intro x1 x2 x3 x4 x5 w hr; exact absurd hr (by simp [f_X10_stack_73])
  | succ n ih =>
    intro x1 x2 x3 x4 x5 w hr
    rw [f_X10_stack_73] at hr
    refine V_iload hX dX10_stack_73 rfl ?_
    refine V_bipush hX dX10_stack_75 bp_14 ?_
    refine V_icmp_ge (tgt := 142) hX dX10_stack_77 (by decide) (fun h77 => ?_) (fun h77 => ?_)
    · rw [if_pos h77] at hr
      refine V_iinc hX dX10_stack_142 rfl (ii_1 _) (Nat.le_of_ble_eq_true rfl) rfl ?_
      refine V_goto (tgt := 63) hX dX10_stack_145 (by decide) ?_
      refine V_mask [true, true, true, true, true, false] ?_
      exact hk63 _ _ _ _ _ hr
    · rw [if_neg h77] at hr
      refine V_aload_n hX dX10_stack_80 rfl rfl ?_
      refine G_RX10_59 hX dX10_stack_81 ?_
      refine V_iload hX dX10_stack_84 rfl ?_
      refine V_aload_n hX dX10_stack_86 rfl rfl ?_
      refine V_iload hX dX10_stack_87 rfl ?_
      refine V_iload hX dX10_stack_89 rfl ?_
      obtain ⟨q1, hq1, hr⟩ := bnd hr
      refine C_RX10_218 hX (c_X10_isPair (by omega) hq1) (Nat.le_of_ble_eq_true rfl) dX10_stack_91 ?_
      refine V_if_eq (tgt := 128) hX dX10_stack_94 (by decide) (fun h94 => ?_) (fun h94 => ?_)
      · rw [if_pos h94] at hr
        refine V_mask [true, true, true, true, true, true] ?_
        exact v_X10_stack_128 hd9 hX hE hk54 hk63 ih _ _ _ _ _ _ _ hr
      · rw [if_neg h94] at hr
        refine V_aload_n hX dX10_stack_97 rfl rfl ?_
        refine G_RX10_59 hX dX10_stack_98 ?_
        refine V_iload hX dX10_stack_101 rfl ?_
        obtain ⟨hn103, hr⟩ := ifn hr
        refine V_iald hX (Nat.le_of_ble_eq_true rfl) lay_48 (inB_in hn103) dX10_stack_103 ?_
        refine V_iconst hX dX10_stack_104 ic_1 ?_
        refine V_iadd hX dX10_stack_105 ?_
        refine V_aload_n hX dX10_stack_106 rfl rfl ?_
        refine G_RX10_59 hX dX10_stack_107 ?_
        refine V_iload hX dX10_stack_110 rfl ?_
        obtain ⟨hn112, hr⟩ := ifn hr
        refine V_iald hX (Nat.le_of_ble_eq_true rfl) lay_48 (inB_in hn112) dX10_stack_112 ?_
        refine V_icmp_le (tgt := 128) hX dX10_stack_113 (by decide) (fun h113 => ?_) (fun h113 => ?_)
        · rw [if_pos h113] at hr
          refine V_mask [true, true, true, true, true, true] ?_
          exact v_X10_stack_128 hd9 hX hE hk54 hk63 ih _ _ _ _ _ _ _ hr
        · rw [if_neg h113] at hr
          refine V_aload_n hX dX10_stack_116 rfl rfl ?_
          refine G_RX10_59 hX dX10_stack_117 ?_
          refine V_iload hX dX10_stack_120 rfl ?_
          obtain ⟨hn122, hr⟩ := ifn hr
          refine V_iald hX (Nat.le_of_ble_eq_true rfl) lay_48 (inB_in hn122) dX10_stack_122 ?_
          refine V_iconst hX dX10_stack_123 ic_1 ?_
          refine V_iadd hX dX10_stack_124 ?_
          refine V_goto (tgt := 135) hX dX10_stack_125 (by decide) ?_
          obtain ⟨hn135, hr⟩ := ifn hr
          refine V_iast hX (Nat.le_of_ble_eq_true rfl) lay_48 (inB_in hn135) dX10_stack_135 ?_
          refine V_iinc hX dX10_stack_136 rfl (ii_1 _) (Nat.le_of_ble_eq_true rfl) rfl ?_
          refine V_goto (tgt := 73) hX dX10_stack_139 (by decide) ?_
          refine V_mask [true, true, true, true, true, true] ?_
          exact ih _ _ _ _ _ _ hr
set_option maxRecDepth 100000 in
set_option maxHeartbeats 4000000 in
theorem v_X10_stack_156 {d : Nat} (hd9 : 4 ≤ d) {X : bX} (hX : bOk cX10_stack 6 RX10 d X) {r : (Int32 × Wd)} (hE : bEnd (some .int) (some (.int r.1)) r.2 X) : ∀ (n : Nat) (x1 : Int32) (x2 : Int32) (x3 : Int32) (w : Wd), f_X10_stack_156 n x1 x2 x3 w = some r → bV X 156 [some (.ref 33), some (.int x1), some (.int x2), some (.int x3), none, none] [] w := by
  obtain ⟨d, rfl⟩ : ∃ e, d = e + 1 := ⟨d - 1, by omega⟩
  intro n
  induction n with
  | zero => intro x1 x2 x3 w hr; exact absurd hr (by simp [f_X10_stack_156])
  | succ n ih =>
    intro x1 x2 x3 w hr
    rw [f_X10_stack_156] at hr
    refine V_iload_n hX dX10_stack_156 rfl rfl ?_
    refine V_bipush hX dX10_stack_157 bp_14 ?_
    refine V_icmp_ge (tgt := 198) hX dX10_stack_159 (by decide) (fun h159 => ?_) (fun h159 => ?_)
    · rw [if_pos h159] at hr
      refine V_iload_n hX dX10_stack_198 rfl rfl ?_
      refine V_iconst hX dX10_stack_199 ic_m1 ?_
      refine V_icmp_ne (tgt := 219) hX dX10_stack_200 (by decide) (fun h200 => ?_) (fun h200 => ?_)
      · rw [if_neg h200] at hr
        refine V_iconst hX dX10_stack_219 ic_0 ?_
        refine V_istore_n hX dX10_stack_220 rfl (Nat.le_of_ble_eq_true rfl) rfl ?_
        refine V_mask [true, true, true, true, false, false] ?_
        exact v_X10_stack_221 hd9 hX hE _ _ _ _ _ hr
      · rw [if_pos h200] at hr
        refine V_iload_n hX dX10_stack_203 rfl rfl ?_
        refine V_iconst hX dX10_stack_204 ic_m1 ?_
        refine V_icmp_ne (tgt := 212) hX dX10_stack_205 (by decide) (fun h205 => ?_) (fun h205 => ?_)
        · rw [if_neg h205] at hr
          refine V_aload_n hX dX10_stack_212 rfl rfl ?_
          refine G_RX10_59 hX dX10_stack_213 ?_
          refine V_iload_n hX dX10_stack_216 rfl rfl ?_
          obtain ⟨hn217, hr⟩ := ifn hr
          refine V_iald hX (Nat.le_of_ble_eq_true rfl) lay_48 (inB_in hn217) dX10_stack_217 ?_
          cases hr
          exact V_iret hX hE rfl dX10_stack_218
        · rw [if_pos h205] at hr
          refine V_iconst hX dX10_stack_208 ic_0 ?_
          refine V_goto (tgt := 218) hX dX10_stack_209 (by decide) ?_
          cases hr
          exact V_iret hX hE rfl dX10_stack_218
    · rw [if_neg h159] at hr
      refine V_aload_n hX dX10_stack_162 rfl rfl ?_
      refine G_RX10_59 hX dX10_stack_163 ?_
      refine V_iload_n hX dX10_stack_166 rfl rfl ?_
      obtain ⟨hn167, hr⟩ := ifn hr
      refine V_iald hX (Nat.le_of_ble_eq_true rfl) lay_48 (inB_in hn167) dX10_stack_167 ?_
      refine V_iload_n hX dX10_stack_168 rfl rfl ?_
      refine V_iconst hX dX10_stack_169 ic_m1 ?_
      refine V_icmp_ne (tgt := 177) hX dX10_stack_170 (by decide) (fun h170 => ?_) (fun h170 => ?_)
      · rw [if_neg h170] at hr
        refine V_aload_n hX dX10_stack_177 rfl rfl ?_
        refine G_RX10_59 hX dX10_stack_178 ?_
        refine V_iload_n hX dX10_stack_181 rfl rfl ?_
        obtain ⟨hn182, hr⟩ := ifn hr
        refine V_iald hX (Nat.le_of_ble_eq_true rfl) lay_48 (inB_in hn182) dX10_stack_182 ?_
        refine V_mask [true, true, true, true, false, false] ?_
        exact v_X10_stack_183 hd9 hX hE ih _ _ _ _ _ _ hr
      · rw [if_pos h170] at hr
        refine V_iconst hX dX10_stack_173 ic_0 ?_
        refine V_goto (tgt := 183) hX dX10_stack_174 (by decide) ?_
        refine V_mask [true, true, true, true, false, false] ?_
        exact v_X10_stack_183 hd9 hX hE ih _ _ _ _ _ _ hr
set_option maxRecDepth 100000 in
set_option maxHeartbeats 4000000 in
theorem v_X10_stack_63 {d : Nat} (hd9 : 4 ≤ d) {X : bX} (hX : bOk cX10_stack 6 RX10 d X) {r : (Int32 × Wd)} (hE : bEnd (some .int) (some (.int r.1)) r.2 X) {k54 : Int32 → Int32 → Int32 → Wd → Option (Int32 × Wd)} (hk54 : ∀ (x1 : Int32) (x2 : Int32) (x3 : Int32) (w : Wd), k54 x1 x2 x3 w = some r → bV X 54 [some (.ref 33), some (.int x1), some (.int x2), some (.int x3), none, none] [] w) : ∀ (n : Nat) (x1 : Int32) (x2 : Int32) (x3 : Int32) (x4 : Int32) (w : Wd), f_X10_stack_63 k54 n x1 x2 x3 x4 w = some r → bV X 63 [some (.ref 33), some (.int x1), some (.int x2), some (.int x3), some (.int x4), none] [] w := by
  obtain ⟨d, rfl⟩ : ∃ e, d = e + 1 := ⟨d - 1, by omega⟩
  intro n
  induction n with
  | zero => intro x1 x2 x3 x4 w hr; exact absurd hr (by simp [f_X10_stack_63])
  | succ n ih =>
    intro x1 x2 x3 x4 w hr
    rw [f_X10_stack_63] at hr
    refine V_iload hX dX10_stack_63 rfl ?_
    refine V_bipush hX dX10_stack_65 bp_14 ?_
    refine V_icmp_ge (tgt := 148) hX dX10_stack_67 (by decide) (fun h67 => ?_) (fun h67 => ?_)
    · rw [if_pos h67] at hr
      refine V_iinc hX dX10_stack_148 rfl (ii_1 _) (Nat.le_of_ble_eq_true rfl) rfl ?_
      refine V_goto (tgt := 54) hX dX10_stack_151 (by decide) ?_
      refine V_mask [true, true, true, true, false, false] ?_
      exact hk54 _ _ _ _ hr
    · rw [if_neg h67] at hr
      refine V_iconst hX dX10_stack_70 ic_0 ?_
      refine V_istore hX dX10_stack_71 (Nat.le_of_ble_eq_true rfl) rfl ?_
      refine V_mask [true, true, true, true, true, true] ?_
      exact v_X10_stack_73 hd9 hX hE hk54 ih _ _ _ _ _ _ _ hr
set_option maxRecDepth 100000 in
set_option maxHeartbeats 4000000 in
theorem v_X10_stack_54 {d : Nat} (hd9 : 4 ≤ d) {X : bX} (hX : bOk cX10_stack 6 RX10 d X) {r : (Int32 × Wd)} (hE : bEnd (some .int) (some (.int r.1)) r.2 X) : ∀ (n : Nat) (x1 : Int32) (x2 : Int32) (x3 : Int32) (w : Wd), f_X10_stack_54 n x1 x2 x3 w = some r → bV X 54 [some (.ref 33), some (.int x1), some (.int x2), some (.int x3), none, none] [] w := by
  obtain ⟨d, rfl⟩ : ∃ e, d = e + 1 := ⟨d - 1, by omega⟩
  intro n
  induction n with
  | zero => intro x1 x2 x3 w hr; exact absurd hr (by simp [f_X10_stack_54])
  | succ n ih =>
    intro x1 x2 x3 w hr
    rw [f_X10_stack_54] at hr
    refine V_iload_n hX dX10_stack_54 rfl rfl ?_
    refine V_bipush hX dX10_stack_55 bp_14 ?_
    refine V_icmp_ge (tgt := 154) hX dX10_stack_57 (by decide) (fun h57 => ?_) (fun h57 => ?_)
    · rw [if_pos h57] at hr
      refine V_iconst hX dX10_stack_154 ic_0 ?_
      refine V_istore_n hX dX10_stack_155 rfl (Nat.le_of_ble_eq_true rfl) rfl ?_
      refine V_mask [true, true, true, true, false, false] ?_
      exact v_X10_stack_156 hd9 hX hE _ _ _ _ _ hr
    · rw [if_neg h57] at hr
      refine V_iconst hX dX10_stack_60 ic_0 ?_
      refine V_istore hX dX10_stack_61 (Nat.le_of_ble_eq_true rfl) rfl ?_
      refine V_mask [true, true, true, true, true, false] ?_
      exact v_X10_stack_63 hd9 hX hE ih _ _ _ _ _ _ hr
set_option maxRecDepth 100000 in
set_option maxHeartbeats 4000000 in
theorem v_X10_stack_21 {d : Nat} (hd9 : 4 ≤ d) {X : bX} (hX : bOk cX10_stack 6 RX10 d X) {r : (Int32 × Wd)} (hE : bEnd (some .int) (some (.int r.1)) r.2 X) : ∀ (n : Nat) (x1 : Int32) (x2 : Int32) (x3 : Int32) (w : Wd), f_X10_stack_21 n x1 x2 x3 w = some r → bV X 21 [some (.ref 33), some (.int x1), some (.int x2), some (.int x3), none, none] [] w := by
  obtain ⟨d, rfl⟩ : ∃ e, d = e + 1 := ⟨d - 1, by omega⟩
  intro n
  induction n with
  | zero => intro x1 x2 x3 w hr; exact absurd hr (by simp [f_X10_stack_21])
  | succ n ih =>
    intro x1 x2 x3 w hr
    rw [f_X10_stack_21] at hr
    refine V_iload_n hX dX10_stack_21 rfl rfl ?_
    refine V_bipush hX dX10_stack_22 bp_14 ?_
    refine V_icmp_ge (tgt := 52) hX dX10_stack_24 (by decide) (fun h24 => ?_) (fun h24 => ?_)
    · rw [if_pos h24] at hr
      refine V_iconst hX dX10_stack_52 ic_0 ?_
      refine V_istore_n hX dX10_stack_53 rfl (Nat.le_of_ble_eq_true rfl) rfl ?_
      refine V_mask [true, true, true, true, false, false] ?_
      exact v_X10_stack_54 hd9 hX hE _ _ _ _ _ hr
    · rw [if_neg h24] at hr
      refine V_aload_n hX dX10_stack_27 rfl rfl ?_
      refine G_RX10_59 hX dX10_stack_28 ?_
      refine V_iload_n hX dX10_stack_31 rfl rfl ?_
      refine V_aload_n hX dX10_stack_32 rfl rfl ?_
      refine V_iload_n hX dX10_stack_33 rfl rfl ?_
      obtain ⟨q1, hq1, hr⟩ := bnd hr
      refine C_RX10_93 hX (c_X10_isThing (by omega) hq1) (Nat.le_of_ble_eq_true rfl) dX10_stack_34 ?_
      refine V_if_eq (tgt := 44) hX dX10_stack_37 (by decide) (fun h37 => ?_) (fun h37 => ?_)
      · rw [if_pos h37] at hr
        refine V_iconst hX dX10_stack_44 ic_0 ?_
        obtain ⟨hn45, hr⟩ := ifn hr
        refine V_iast hX (Nat.le_of_ble_eq_true rfl) lay_48 (inB_in hn45) dX10_stack_45 ?_
        refine V_iinc hX dX10_stack_46 rfl (ii_1 _) (Nat.le_of_ble_eq_true rfl) rfl ?_
        refine V_goto (tgt := 21) hX dX10_stack_49 (by decide) ?_
        refine V_mask [true, true, true, true, false, false] ?_
        exact ih _ _ _ _ hr
      · rw [if_neg h37] at hr
        refine V_iconst hX dX10_stack_40 ic_1 ?_
        refine V_goto (tgt := 45) hX dX10_stack_41 (by decide) ?_
        obtain ⟨hn45, hr⟩ := ifn hr
        refine V_iast hX (Nat.le_of_ble_eq_true rfl) lay_48 (inB_in hn45) dX10_stack_45 ?_
        refine V_iinc hX dX10_stack_46 rfl (ii_1 _) (Nat.le_of_ble_eq_true rfl) rfl ?_
        refine V_goto (tgt := 21) hX dX10_stack_49 (by decide) ?_
        refine V_mask [true, true, true, true, false, false] ?_
        exact ih _ _ _ _ hr
set_option maxRecDepth 100000 in
set_option maxHeartbeats 4000000 in
theorem c_X10_stack {d : Nat} (hd9 : 4 ≤ d) {p0 : Int32} {w : Wd} {r : (Int32 × Wd)} (hr : f_X10_stack p0 w = some r) : Con d yX10_stack cX10_stack 6 (some .int) [.ref 33, .int p0] w (some (.int r.1)) r.2 := by
  refine Con_of (by decide) (Nat.le_of_ble_eq_true rfl) (fun X hX hE => ?_)
  have hX : bOk cX10_stack 6 RX10 d X := hX
  show bV X 0 [some (.ref 33), some (.int p0), none, none, none, none] [] w
  obtain ⟨d, rfl⟩ : ∃ e, d = e + 1 := ⟨d - 1, by omega⟩
  unfold f_X10_stack at hr
  refine V_iload_n hX dX10_stack_0 rfl rfl ?_
  refine V_iconst hX dX10_stack_1 ic_m1 ?_
  refine V_icmp_ge (tgt := 8) hX dX10_stack_2 (by decide) (fun h2 => ?_) (fun h2 => ?_)
  · rw [if_pos h2] at hr
    refine V_aload_n hX dX10_stack_8 rfl rfl ?_
    obtain ⟨q1, hq1, hr⟩ := bnd hr
    refine C_RX10_222 hX (c_X10_ringOf (by omega) hq1) (Nat.le_of_ble_eq_true rfl) dX10_stack_9 ?_
    refine V_if_eq (tgt := 17) hX dX10_stack_12 (by decide) (fun h12 => ?_) (fun h12 => ?_)
    · rw [if_pos h12] at hr
      refine V_iconst hX dX10_stack_17 ic_m1 ?_
      refine V_istore_n hX dX10_stack_18 rfl (Nat.le_of_ble_eq_true rfl) rfl ?_
      refine V_iconst hX dX10_stack_19 ic_0 ?_
      refine V_istore_n hX dX10_stack_20 rfl (Nat.le_of_ble_eq_true rfl) rfl ?_
      refine V_mask [true, true, true, true, false, false] ?_
      exact v_X10_stack_21 hd9 hX hE _ _ _ _ _ hr
    · rw [if_neg h12] at hr
      refine V_iconst hX dX10_stack_15 ic_m1 ?_
      cases hr
      exact V_iret hX hE rfl dX10_stack_16
  · rw [if_neg h2] at hr
    refine V_bipush hX dX10_stack_5 bp_m3 ?_
    cases hr
    exact V_iret hX hE rfl dX10_stack_7
def f_X10_over (p0 : Int32) (p1 : Int32) (w : Wd) : Option (Int32 × Wd) := Option.bind (f_X10_isThing p0 w) fun q1 =>
    if q1.1 = 0 then
      (some ((-2), q1.2))
    else
      (Option.bind (f_X10_isThing p1 q1.2) fun q2 =>
      if q2.1 = 0 then
        (some ((-2), q2.2))
      else
        (Option.bind (f_X10_findReach q2.2) fun q3 =>
        if inB p0 14 then (some (((jshr (q3.1 42 (ix p0)) p1) &&& 1), q3)) else none))
set_option maxRecDepth 100000 in
set_option maxHeartbeats 4000000 in
theorem c_X10_over {d : Nat} (hd9 : 3 ≤ d) {p0 : Int32} {p1 : Int32} {w : Wd} {r : (Int32 × Wd)} (hr : f_X10_over p0 p1 w = some r) : Con d yX10_over cX10_over 3 (some .int) [.ref 33, .int p0, .int p1] w (some (.int r.1)) r.2 := by
  refine Con_of (by decide) (Nat.le_of_ble_eq_true rfl) (fun X hX hE => ?_)
  have hX : bOk cX10_over 3 RX10 d X := hX
  show bV X 0 [some (.ref 33), some (.int p0), some (.int p1)] [] w
  obtain ⟨d, rfl⟩ : ∃ e, d = e + 1 := ⟨d - 1, by omega⟩
  unfold f_X10_over at hr
  refine V_aload_n hX dX10_over_0 rfl rfl ?_
  refine V_iload_n hX dX10_over_1 rfl rfl ?_
  obtain ⟨q1, hq1, hr⟩ := bnd hr
  refine C_RX10_93 hX (c_X10_isThing (by omega) hq1) (Nat.le_of_ble_eq_true rfl) dX10_over_2 ?_
  refine V_if_eq (tgt := 16) hX dX10_over_5 (by decide) (fun h5 => ?_) (fun h5 => ?_)
  · rw [if_pos h5] at hr
    refine V_bipush hX dX10_over_16 bp_m2 ?_
    cases hr
    exact V_iret hX hE rfl dX10_over_18
  · rw [if_neg h5] at hr
    refine V_aload_n hX dX10_over_8 rfl rfl ?_
    refine V_iload_n hX dX10_over_9 rfl rfl ?_
    obtain ⟨q2, hq2, hr⟩ := bnd hr
    refine C_RX10_93 hX (c_X10_isThing (by omega) hq2) (Nat.le_of_ble_eq_true rfl) dX10_over_10 ?_
    refine V_if_ne (tgt := 19) hX dX10_over_13 (by decide) (fun h13 => ?_) (fun h13 => ?_)
    · rw [if_neg h13] at hr
      refine V_aload_n hX dX10_over_19 rfl rfl ?_
      obtain ⟨q3, hq3, hr⟩ := bnd hr
      refine C_RX10_229 hX (c_X10_findReach (by omega) hq3) (Nat.le_of_ble_eq_true rfl) dX10_over_20 ?_
      refine V_aload_n hX dX10_over_23 rfl rfl ?_
      refine G_RX10_34 hX dX10_over_24 ?_
      refine V_iload_n hX dX10_over_27 rfl rfl ?_
      obtain ⟨hn28, hr⟩ := ifn hr
      refine V_iald hX (Nat.le_of_ble_eq_true rfl) lay_42 (inB_in hn28) dX10_over_28 ?_
      refine V_iload_n hX dX10_over_29 rfl rfl ?_
      refine V_ishr hX dX10_over_30 ?_
      refine V_iconst hX dX10_over_31 ic_1 ?_
      refine V_iand hX dX10_over_32 ?_
      cases hr
      exact V_iret hX hE rfl dX10_over_33
    · rw [if_pos h13] at hr
      refine V_bipush hX dX10_over_16 bp_m2 ?_
      cases hr
      exact V_iret hX hE rfl dX10_over_18
def f_X10_beginOf (p0 : Int32) (w : Wd) : Option (Int32 × Wd) := Option.bind (f_X10_of p0 0 w) fun q1 =>
    if q1.1 = 0 then
      (if inB p0 14 then (some ((q1.2.1 35 (ix p0)), q1.2)) else none)
    else
      (if inB p0 14 then (some ((q1.2.1 36 (ix p0)), q1.2)) else none)
set_option maxRecDepth 100000 in
set_option maxHeartbeats 4000000 in
theorem c_X10_beginOf {d : Nat} (hd9 : 1 ≤ d) {p0 : Int32} {w : Wd} {r : (Int32 × Wd)} (hr : f_X10_beginOf p0 w = some r) : Con d yX10_beginOf cX10_beginOf 2 (some .int) [.ref 33, .int p0] w (some (.int r.1)) r.2 := by
  refine Con_of (by decide) (Nat.le_of_ble_eq_true rfl) (fun X hX hE => ?_)
  have hX : bOk cX10_beginOf 2 RX10 d X := hX
  show bV X 0 [some (.ref 33), some (.int p0)] [] w
  obtain ⟨d, rfl⟩ : ∃ e, d = e + 1 := ⟨d - 1, by omega⟩
  unfold f_X10_beginOf at hr
  refine V_aload_n hX dX10_beginOf_0 rfl rfl ?_
  refine V_iload_n hX dX10_beginOf_1 rfl rfl ?_
  refine V_iconst hX dX10_beginOf_2 ic_0 ?_
  obtain ⟨q1, hq1, hr⟩ := bnd hr
  refine C_RX10_184 hX (c_X10_of (by omega) hq1) (Nat.le_of_ble_eq_true rfl) dX10_beginOf_3 ?_
  refine V_if_ne (tgt := 18) hX dX10_beginOf_6 (by decide) (fun h6 => ?_) (fun h6 => ?_)
  · rw [if_neg h6] at hr
    refine V_aload_n hX dX10_beginOf_18 rfl rfl ?_
    refine G_RX10_16 hX dX10_beginOf_19 ?_
    refine V_iload_n hX dX10_beginOf_22 rfl rfl ?_
    obtain ⟨hn23, hr⟩ := ifn hr
    refine V_iald hX (Nat.le_of_ble_eq_true rfl) lay_36 (inB_in hn23) dX10_beginOf_23 ?_
    cases hr
    exact V_iret hX hE rfl dX10_beginOf_24
  · rw [if_pos h6] at hr
    refine V_aload_n hX dX10_beginOf_9 rfl rfl ?_
    refine G_RX10_13 hX dX10_beginOf_10 ?_
    refine V_iload_n hX dX10_beginOf_13 rfl rfl ?_
    obtain ⟨hn14, hr⟩ := ifn hr
    refine V_iald hX (Nat.le_of_ble_eq_true rfl) lay_35 (inB_in hn14) dX10_beginOf_14 ?_
    refine V_goto (tgt := 24) hX dX10_beginOf_15 (by decide) ?_
    cases hr
    exact V_iret hX hE rfl dX10_beginOf_24
def f_X10_sideOf (p0 : Int32) (w : Wd) : Option (Int32 × Wd) := Option.bind (f_X10_of p0 0 w) fun q1 =>
    if q1.1 = 0 then
      (if inB p0 14 then (some ((q1.2.1 36 (ix p0)), q1.2)) else none)
    else
      (if inB p0 14 then (some ((q1.2.1 35 (ix p0)), q1.2)) else none)
set_option maxRecDepth 100000 in
set_option maxHeartbeats 4000000 in
theorem c_X10_sideOf {d : Nat} (hd9 : 1 ≤ d) {p0 : Int32} {w : Wd} {r : (Int32 × Wd)} (hr : f_X10_sideOf p0 w = some r) : Con d yX10_sideOf cX10_sideOf 2 (some .int) [.ref 33, .int p0] w (some (.int r.1)) r.2 := by
  refine Con_of (by decide) (Nat.le_of_ble_eq_true rfl) (fun X hX hE => ?_)
  have hX : bOk cX10_sideOf 2 RX10 d X := hX
  show bV X 0 [some (.ref 33), some (.int p0)] [] w
  obtain ⟨d, rfl⟩ : ∃ e, d = e + 1 := ⟨d - 1, by omega⟩
  unfold f_X10_sideOf at hr
  refine V_aload_n hX dX10_sideOf_0 rfl rfl ?_
  refine V_iload_n hX dX10_sideOf_1 rfl rfl ?_
  refine V_iconst hX dX10_sideOf_2 ic_0 ?_
  obtain ⟨q1, hq1, hr⟩ := bnd hr
  refine C_RX10_184 hX (c_X10_of (by omega) hq1) (Nat.le_of_ble_eq_true rfl) dX10_sideOf_3 ?_
  refine V_if_ne (tgt := 18) hX dX10_sideOf_6 (by decide) (fun h6 => ?_) (fun h6 => ?_)
  · rw [if_neg h6] at hr
    refine V_aload_n hX dX10_sideOf_18 rfl rfl ?_
    refine G_RX10_13 hX dX10_sideOf_19 ?_
    refine V_iload_n hX dX10_sideOf_22 rfl rfl ?_
    obtain ⟨hn23, hr⟩ := ifn hr
    refine V_iald hX (Nat.le_of_ble_eq_true rfl) lay_35 (inB_in hn23) dX10_sideOf_23 ?_
    cases hr
    exact V_iret hX hE rfl dX10_sideOf_24
  · rw [if_pos h6] at hr
    refine V_aload_n hX dX10_sideOf_9 rfl rfl ?_
    refine G_RX10_16 hX dX10_sideOf_10 ?_
    refine V_iload_n hX dX10_sideOf_13 rfl rfl ?_
    obtain ⟨hn14, hr⟩ := ifn hr
    refine V_iald hX (Nat.le_of_ble_eq_true rfl) lay_36 (inB_in hn14) dX10_sideOf_14 ?_
    refine V_goto (tgt := 24) hX dX10_sideOf_15 (by decide) ?_
    cases hr
    exact V_iret hX hE rfl dX10_sideOf_24
def f_X10_broadOf (p0 : Int32) (w : Wd) : Option (Int32 × Wd) := Option.bind (f_X10_of p0 1 w) fun q1 =>
    Option.bind (f_X10_of p0 2 q1.2) fun q2 =>
    some ((q1.1 * q2.1), q2.2)
set_option maxRecDepth 100000 in
set_option maxHeartbeats 4000000 in
theorem c_X10_broadOf {d : Nat} (hd9 : 1 ≤ d) {p0 : Int32} {w : Wd} {r : (Int32 × Wd)} (hr : f_X10_broadOf p0 w = some r) : Con d yX10_broadOf cX10_broadOf 2 (some .int) [.ref 33, .int p0] w (some (.int r.1)) r.2 := by
  refine Con_of (by decide) (Nat.le_of_ble_eq_true rfl) (fun X hX hE => ?_)
  have hX : bOk cX10_broadOf 2 RX10 d X := hX
  show bV X 0 [some (.ref 33), some (.int p0)] [] w
  obtain ⟨d, rfl⟩ : ∃ e, d = e + 1 := ⟨d - 1, by omega⟩
  unfold f_X10_broadOf at hr
  refine V_aload_n hX dX10_broadOf_0 rfl rfl ?_
  refine V_iload_n hX dX10_broadOf_1 rfl rfl ?_
  refine V_iconst hX dX10_broadOf_2 ic_1 ?_
  obtain ⟨q1, hq1, hr⟩ := bnd hr
  refine C_RX10_184 hX (c_X10_of (by omega) hq1) (Nat.le_of_ble_eq_true rfl) dX10_broadOf_3 ?_
  refine V_aload_n hX dX10_broadOf_6 rfl rfl ?_
  refine V_iload_n hX dX10_broadOf_7 rfl rfl ?_
  refine V_iconst hX dX10_broadOf_8 ic_2 ?_
  obtain ⟨q2, hq2, hr⟩ := bnd hr
  refine C_RX10_184 hX (c_X10_of (by omega) hq2) (Nat.le_of_ble_eq_true rfl) dX10_broadOf_9 ?_
  refine V_imul hX dX10_broadOf_12 ?_
  cases hr
  exact V_iret hX hE rfl dX10_broadOf_13
def f_X10_between (p0 : Int32) (p1 : Int32) (w : Wd) : Option (Int32 × Wd) := Option.bind (f_X10_beginOf p1 w) fun q1 =>
    Option.bind (f_X10_beginOf p0 q1.2) fun q2 =>
    Option.bind (f_X10_of p0 3 q2.2) fun q3 =>
    some (((q1.1 - q2.1) - q3.1), q3.2)
set_option maxRecDepth 100000 in
set_option maxHeartbeats 4000000 in
theorem c_X10_between {d : Nat} (hd9 : 2 ≤ d) {p0 : Int32} {p1 : Int32} {w : Wd} {r : (Int32 × Wd)} (hr : f_X10_between p0 p1 w = some r) : Con d yX10_between cX10_between 3 (some .int) [.ref 33, .int p0, .int p1] w (some (.int r.1)) r.2 := by
  refine Con_of (by decide) (Nat.le_of_ble_eq_true rfl) (fun X hX hE => ?_)
  have hX : bOk cX10_between 3 RX10 d X := hX
  show bV X 0 [some (.ref 33), some (.int p0), some (.int p1)] [] w
  obtain ⟨d, rfl⟩ : ∃ e, d = e + 1 := ⟨d - 1, by omega⟩
  unfold f_X10_between at hr
  refine V_aload_n hX dX10_between_0 rfl rfl ?_
  refine V_iload_n hX dX10_between_1 rfl rfl ?_
  obtain ⟨q1, hq1, hr⟩ := bnd hr
  refine C_RX10_232 hX (c_X10_beginOf (by omega) hq1) (Nat.le_of_ble_eq_true rfl) dX10_between_2 ?_
  refine V_aload_n hX dX10_between_5 rfl rfl ?_
  refine V_iload_n hX dX10_between_6 rfl rfl ?_
  obtain ⟨q2, hq2, hr⟩ := bnd hr
  refine C_RX10_232 hX (c_X10_beginOf (by omega) hq2) (Nat.le_of_ble_eq_true rfl) dX10_between_7 ?_
  refine V_isub hX dX10_between_10 ?_
  refine V_aload_n hX dX10_between_11 rfl rfl ?_
  refine V_iload_n hX dX10_between_12 rfl rfl ?_
  refine V_iconst hX dX10_between_13 ic_3 ?_
  obtain ⟨q3, hq3, hr⟩ := bnd hr
  refine C_RX10_184 hX (c_X10_of (by omega) hq3) (Nat.le_of_ble_eq_true rfl) dX10_between_14 ?_
  refine V_isub hX dX10_between_17 ?_
  cases hr
  exact V_iret hX hE rfl dX10_between_18
def f_X10_isOff (p0 : Int32) (p1 : Int32) (w : Wd) : Option (Int32 × Wd) := if p0 ≤ (w.1 33 13) then
      (some (1, w))
    else
      (if (w.1 33 13) < (p1 - p0) then
        (some (0, w))
      else
        (some (1, w)))
set_option maxRecDepth 100000 in
set_option maxHeartbeats 4000000 in
theorem c_X10_isOff {d : Nat} (hd9 : 0 ≤ d) {p0 : Int32} {p1 : Int32} {w : Wd} {r : (Int32 × Wd)} (hr : f_X10_isOff p0 p1 w = some r) : Con d yX10_isOff cX10_isOff 3 (some .boolean) [.ref 33, .int p0, .int p1] w (some (.int r.1)) r.2 := by
  refine Con_of (by decide) (Nat.le_of_ble_eq_true rfl) (fun X hX hE => ?_)
  have hX : bOk cX10_isOff 3 RX10 d X := hX
  show bV X 0 [some (.ref 33), some (.int p0), some (.int p1)] [] w
  unfold f_X10_isOff at hr
  refine V_iload_n hX dX10_isOff_0 rfl rfl ?_
  refine V_aload_n hX dX10_isOff_1 rfl rfl ?_
  refine G_RX10_40 hX dX10_isOff_2 ?_
  refine V_icmp_le (tgt := 18) hX dX10_isOff_5 (by decide) (fun h5 => ?_) (fun h5 => ?_)
  · rw [if_pos h5] at hr
    refine V_iconst hX dX10_isOff_18 ic_1 ?_
    refine V_goto (tgt := 23) hX dX10_isOff_19 (by decide) ?_
    cases hr
    exact V_iret hX hE rfl dX10_isOff_23
  · rw [if_neg h5] at hr
    refine V_iload_n hX dX10_isOff_8 rfl rfl ?_
    refine V_iload_n hX dX10_isOff_9 rfl rfl ?_
    refine V_isub hX dX10_isOff_10 ?_
    refine V_aload_n hX dX10_isOff_11 rfl rfl ?_
    refine G_RX10_40 hX dX10_isOff_12 ?_
    refine V_icmp_gt (tgt := 22) hX dX10_isOff_15 (by decide) (fun h15 => ?_) (fun h15 => ?_)
    · rw [if_pos h15] at hr
      refine V_iconst hX dX10_isOff_22 ic_0 ?_
      cases hr
      exact V_iret hX hE rfl dX10_isOff_23
    · rw [if_neg h15] at hr
      refine V_iconst hX dX10_isOff_18 ic_1 ?_
      refine V_goto (tgt := 23) hX dX10_isOff_19 (by decide) ?_
      cases hr
      exact V_iret hX hE rfl dX10_isOff_23
def f_X10_areJoined_190 (s0 : Int32) (x1 : Int32) (x3 : Int32) (x4 : Int32) (x5 : Int32) (w : Wd) : Option (Int32 × Wd) := if x3 = 0 then
      (some (0, w))
    else
      (if x4 = 0 then
        (some (0, w))
      else
        (if x5 = 0 then
          (some (0, w))
        else
          (Option.bind (f_X10_of x1 2 w) fun q1 =>
          if q1.1 = 0 then none else Option.bind (f_X10_of x1 2 q1.2) fun q2 =>
          Option.bind (f_X10_isOff (jrem s0 q1.1) q2.1 q2.2) fun q3 =>
          if q3.1 = 0 then
            (some (0, q3.2))
          else
            (some (1, q3.2)))))
def f_X10_areJoined_150 (s0 : Int32) (x1 : Int32) (x2 : Int32) (x3 : Int32) (x4 : Int32) (w : Wd) : Option (Int32 × Wd) := Option.bind (f_X10_sideOf x1 w) fun q1 =>
    Option.bind (f_X10_sideOf x2 q1.2) fun q2 =>
    if q1.1 ≤ q2.1 then
      (Option.bind (f_X10_sideOf x2 q2.2) fun q3 =>
      Option.bind (f_X10_sideOf x1 q3.2) fun q4 =>
      f_X10_areJoined_190 (q3.1 - q4.1) x1 x3 x4 s0 q4.2)
    else
      (Option.bind (f_X10_sideOf x1 q2.2) fun q3 =>
      Option.bind (f_X10_sideOf x2 q3.2) fun q4 =>
      f_X10_areJoined_190 (q3.1 - q4.1) x1 x3 x4 s0 q4.2)
def f_X10_areJoined_149 (x1 : Int32) (x2 : Int32) (x3 : Int32) (x4 : Int32) (w : Wd) : Option (Int32 × Wd) := f_X10_areJoined_150 0 x1 x2 x3 x4 w
def f_X10_areJoined_105 (s0 : Int32) (x1 : Int32) (x2 : Int32) (x3 : Int32) (w : Wd) : Option (Int32 × Wd) := Option.bind (f_X10_sideOf x1 w) fun q1 =>
    Option.bind (f_X10_sideOf x2 q1.2) fun q2 =>
    Option.bind (f_X10_broadOf x2 q2.2) fun q3 =>
    if (q2.1 + q3.1) ≤ q1.1 then
      (f_X10_areJoined_149 x1 x2 x3 s0 q3.2)
    else
      (Option.bind (f_X10_sideOf x2 q3.2) fun q4 =>
      Option.bind (f_X10_sideOf x1 q4.2) fun q5 =>
      Option.bind (f_X10_broadOf x1 q5.2) fun q6 =>
      if (q5.1 + q6.1) ≤ q4.1 then
        (f_X10_areJoined_149 x1 x2 x3 s0 q6.2)
      else
        (f_X10_areJoined_150 1 x1 x2 x3 s0 q6.2))
def f_X10_areJoined_100 (x1 : Int32) (x2 : Int32) (x3 : Int32) (w : Wd) : Option (Int32 × Wd) := f_X10_areJoined_105 1 x1 x2 x3 w
def f_X10_areJoined_65 (s0 : Int32) (x1 : Int32) (x2 : Int32) (w : Wd) : Option (Int32 × Wd) := Option.bind (f_X10_between x1 x2 w) fun q1 =>
    Option.bind (f_X10_in q1.1 0 (q1.2.1 33 14) q1.2) fun q2 =>
    if q2.1 = 0 then
      (Option.bind (f_X10_between x2 x1 q2.2) fun q3 =>
      Option.bind (f_X10_in q3.1 0 (q3.2.1 33 14) q3.2) fun q4 =>
      if q4.1 = 0 then
        (f_X10_areJoined_105 0 x1 x2 s0 q4.2)
      else
        (f_X10_areJoined_100 x1 x2 s0 q4.2))
    else
      (f_X10_areJoined_100 x1 x2 s0 q2.2)
def f_X10_areJoined_64 (x1 : Int32) (x2 : Int32) (w : Wd) : Option (Int32 × Wd) := f_X10_areJoined_65 0 x1 x2 w
def f_X10_areJoined (p0 : Int32) (p1 : Int32) (w : Wd) : Option (Int32 × Wd) := Option.bind (f_X10_of p0 0 w) fun q1 =>
    Option.bind (f_X10_of p1 0 q1.2) fun q2 =>
    if q1.1 = q2.1 then
      (Option.bind (f_X10_of p0 2 q2.2) fun q3 =>
      Option.bind (f_X10_of p1 2 q3.2) fun q4 =>
      if q3.1 = q4.1 then
        (Option.bind (f_X10_of p0 4 q4.2) fun q5 =>
        Option.bind (f_X10_of p1 4 q5.2) fun q6 =>
        if q5.1 = q6.1 then
          (Option.bind (f_X10_of p0 5 q6.2) fun q7 =>
          Option.bind (f_X10_of p1 5 q7.2) fun q8 =>
          if q7.1 = q8.1 then
            (f_X10_areJoined_65 1 p0 p1 q8.2)
          else
            (f_X10_areJoined_64 p0 p1 q8.2))
        else
          (f_X10_areJoined_64 p0 p1 q6.2))
      else
        (f_X10_areJoined_64 p0 p1 q4.2))
    else
      (f_X10_areJoined_64 p0 p1 q2.2)
set_option maxRecDepth 100000 in
set_option maxHeartbeats 4000000 in
theorem v_X10_areJoined_190 {d : Nat} (hd9 : 3 ≤ d) {X : bX} (hX : bOk cX10_areJoined 7 RX10 d X) {r : (Int32 × Wd)} (hE : bEnd (some .boolean) (some (.int r.1)) r.2 X) : ∀ (s0 : Int32) (x1 : Int32) (x3 : Int32) (x4 : Int32) (x5 : Int32) (w : Wd), f_X10_areJoined_190 s0 x1 x3 x4 x5 w = some r → bV X 190 [some (.ref 33), some (.int x1), none, some (.int x3), some (.int x4), some (.int x5), none] [.int s0] w := by
  intro s0 x1 x3 x4 x5 w hr
  obtain ⟨d, rfl⟩ : ∃ e, d = e + 1 := ⟨d - 1, by omega⟩
  unfold f_X10_areJoined_190 at hr
  refine V_istore hX dX10_areJoined_190 (Nat.le_of_ble_eq_true rfl) rfl ?_
  refine V_iload_n hX dX10_areJoined_192 rfl rfl ?_
  refine V_if_eq (tgt := 232) hX dX10_areJoined_193 (by decide) (fun h193 => ?_) (fun h193 => ?_)
  · rw [if_pos h193] at hr
    refine V_iconst hX dX10_areJoined_232 ic_0 ?_
    cases hr
    exact V_iret hX hE rfl dX10_areJoined_233
  · rw [if_neg h193] at hr
    refine V_iload hX dX10_areJoined_196 rfl ?_
    refine V_if_eq (tgt := 232) hX dX10_areJoined_198 (by decide) (fun h198 => ?_) (fun h198 => ?_)
    · rw [if_pos h198] at hr
      refine V_iconst hX dX10_areJoined_232 ic_0 ?_
      cases hr
      exact V_iret hX hE rfl dX10_areJoined_233
    · rw [if_neg h198] at hr
      refine V_iload hX dX10_areJoined_201 rfl ?_
      refine V_if_eq (tgt := 232) hX dX10_areJoined_203 (by decide) (fun h203 => ?_) (fun h203 => ?_)
      · rw [if_pos h203] at hr
        refine V_iconst hX dX10_areJoined_232 ic_0 ?_
        cases hr
        exact V_iret hX hE rfl dX10_areJoined_233
      · rw [if_neg h203] at hr
        refine V_aload_n hX dX10_areJoined_206 rfl rfl ?_
        refine V_iload hX dX10_areJoined_207 rfl ?_
        refine V_aload_n hX dX10_areJoined_209 rfl rfl ?_
        refine V_iload_n hX dX10_areJoined_210 rfl rfl ?_
        refine V_iconst hX dX10_areJoined_211 ic_2 ?_
        obtain ⟨q1, hq1, hr⟩ := bnd hr
        refine C_RX10_184 hX (c_X10_of (by omega) hq1) (Nat.le_of_ble_eq_true rfl) dX10_areJoined_212 ?_
        obtain ⟨hn215, hr⟩ := ifz hr
        refine V_irem hX dX10_areJoined_215 hn215 ?_
        refine V_aload_n hX dX10_areJoined_216 rfl rfl ?_
        refine V_iload_n hX dX10_areJoined_217 rfl rfl ?_
        refine V_iconst hX dX10_areJoined_218 ic_2 ?_
        obtain ⟨q2, hq2, hr⟩ := bnd hr
        refine C_RX10_184 hX (c_X10_of (by omega) hq2) (Nat.le_of_ble_eq_true rfl) dX10_areJoined_219 ?_
        obtain ⟨q3, hq3, hr⟩ := bnd hr
        refine C_RX10_244 hX (c_X10_isOff (by omega) hq3) (Nat.le_of_ble_eq_true rfl) dX10_areJoined_222 ?_
        refine V_if_eq (tgt := 232) hX dX10_areJoined_225 (by decide) (fun h225 => ?_) (fun h225 => ?_)
        · rw [if_pos h225] at hr
          refine V_iconst hX dX10_areJoined_232 ic_0 ?_
          cases hr
          exact V_iret hX hE rfl dX10_areJoined_233
        · rw [if_neg h225] at hr
          refine V_iconst hX dX10_areJoined_228 ic_1 ?_
          refine V_goto (tgt := 233) hX dX10_areJoined_229 (by decide) ?_
          cases hr
          exact V_iret hX hE rfl dX10_areJoined_233
set_option maxRecDepth 100000 in
set_option maxHeartbeats 4000000 in
theorem v_X10_areJoined_150 {d : Nat} (hd9 : 3 ≤ d) {X : bX} (hX : bOk cX10_areJoined 7 RX10 d X) {r : (Int32 × Wd)} (hE : bEnd (some .boolean) (some (.int r.1)) r.2 X) : ∀ (s0 : Int32) (x1 : Int32) (x2 : Int32) (x3 : Int32) (x4 : Int32) (w : Wd), f_X10_areJoined_150 s0 x1 x2 x3 x4 w = some r → bV X 150 [some (.ref 33), some (.int x1), some (.int x2), some (.int x3), some (.int x4), none, none] [.int s0] w := by
  intro s0 x1 x2 x3 x4 w hr
  obtain ⟨d, rfl⟩ : ∃ e, d = e + 1 := ⟨d - 1, by omega⟩
  unfold f_X10_areJoined_150 at hr
  refine V_istore hX dX10_areJoined_150 (Nat.le_of_ble_eq_true rfl) rfl ?_
  refine V_aload_n hX dX10_areJoined_152 rfl rfl ?_
  refine V_iload_n hX dX10_areJoined_153 rfl rfl ?_
  obtain ⟨q1, hq1, hr⟩ := bnd hr
  refine C_RX10_238 hX (c_X10_sideOf (by omega) hq1) (Nat.le_of_ble_eq_true rfl) dX10_areJoined_154 ?_
  refine V_aload_n hX dX10_areJoined_157 rfl rfl ?_
  refine V_iload_n hX dX10_areJoined_158 rfl rfl ?_
  obtain ⟨q2, hq2, hr⟩ := bnd hr
  refine C_RX10_238 hX (c_X10_sideOf (by omega) hq2) (Nat.le_of_ble_eq_true rfl) dX10_areJoined_159 ?_
  refine V_icmp_le (tgt := 179) hX dX10_areJoined_162 (by decide) (fun h162 => ?_) (fun h162 => ?_)
  · rw [if_pos h162] at hr
    refine V_aload_n hX dX10_areJoined_179 rfl rfl ?_
    refine V_iload_n hX dX10_areJoined_180 rfl rfl ?_
    obtain ⟨q3, hq3, hr⟩ := bnd hr
    refine C_RX10_238 hX (c_X10_sideOf (by omega) hq3) (Nat.le_of_ble_eq_true rfl) dX10_areJoined_181 ?_
    refine V_aload_n hX dX10_areJoined_184 rfl rfl ?_
    refine V_iload_n hX dX10_areJoined_185 rfl rfl ?_
    obtain ⟨q4, hq4, hr⟩ := bnd hr
    refine C_RX10_238 hX (c_X10_sideOf (by omega) hq4) (Nat.le_of_ble_eq_true rfl) dX10_areJoined_186 ?_
    refine V_isub hX dX10_areJoined_189 ?_
    refine V_mask [true, true, false, true, true, true, false] ?_
    exact v_X10_areJoined_190 hd9 hX hE _ _ _ _ _ _ hr
  · rw [if_neg h162] at hr
    refine V_aload_n hX dX10_areJoined_165 rfl rfl ?_
    refine V_iload_n hX dX10_areJoined_166 rfl rfl ?_
    obtain ⟨q3, hq3, hr⟩ := bnd hr
    refine C_RX10_238 hX (c_X10_sideOf (by omega) hq3) (Nat.le_of_ble_eq_true rfl) dX10_areJoined_167 ?_
    refine V_aload_n hX dX10_areJoined_170 rfl rfl ?_
    refine V_iload_n hX dX10_areJoined_171 rfl rfl ?_
    obtain ⟨q4, hq4, hr⟩ := bnd hr
    refine C_RX10_238 hX (c_X10_sideOf (by omega) hq4) (Nat.le_of_ble_eq_true rfl) dX10_areJoined_172 ?_
    refine V_isub hX dX10_areJoined_175 ?_
    refine V_goto (tgt := 190) hX dX10_areJoined_176 (by decide) ?_
    refine V_mask [true, true, false, true, true, true, false] ?_
    exact v_X10_areJoined_190 hd9 hX hE _ _ _ _ _ _ hr
set_option maxRecDepth 100000 in
set_option maxHeartbeats 4000000 in
theorem v_X10_areJoined_149 {d : Nat} (hd9 : 3 ≤ d) {X : bX} (hX : bOk cX10_areJoined 7 RX10 d X) {r : (Int32 × Wd)} (hE : bEnd (some .boolean) (some (.int r.1)) r.2 X) : ∀ (x1 : Int32) (x2 : Int32) (x3 : Int32) (x4 : Int32) (w : Wd), f_X10_areJoined_149 x1 x2 x3 x4 w = some r → bV X 149 [some (.ref 33), some (.int x1), some (.int x2), some (.int x3), some (.int x4), none, none] [] w := by
  intro x1 x2 x3 x4 w hr
  obtain ⟨d, rfl⟩ : ∃ e, d = e + 1 := ⟨d - 1, by omega⟩
  unfold f_X10_areJoined_149 at hr
  refine V_iconst hX dX10_areJoined_149 ic_0 ?_
  refine V_mask [true, true, true, true, true, false, false] ?_
  exact v_X10_areJoined_150 hd9 hX hE _ _ _ _ _ _ hr
set_option maxRecDepth 100000 in
set_option maxHeartbeats 4000000 in
theorem v_X10_areJoined_105 {d : Nat} (hd9 : 3 ≤ d) {X : bX} (hX : bOk cX10_areJoined 7 RX10 d X) {r : (Int32 × Wd)} (hE : bEnd (some .boolean) (some (.int r.1)) r.2 X) : ∀ (s0 : Int32) (x1 : Int32) (x2 : Int32) (x3 : Int32) (w : Wd), f_X10_areJoined_105 s0 x1 x2 x3 w = some r → bV X 105 [some (.ref 33), some (.int x1), some (.int x2), some (.int x3), none, none, none] [.int s0] w := by
  intro s0 x1 x2 x3 w hr
  obtain ⟨d, rfl⟩ : ∃ e, d = e + 1 := ⟨d - 1, by omega⟩
  unfold f_X10_areJoined_105 at hr
  refine V_istore hX dX10_areJoined_105 (Nat.le_of_ble_eq_true rfl) rfl ?_
  refine V_aload_n hX dX10_areJoined_107 rfl rfl ?_
  refine V_iload_n hX dX10_areJoined_108 rfl rfl ?_
  obtain ⟨q1, hq1, hr⟩ := bnd hr
  refine C_RX10_238 hX (c_X10_sideOf (by omega) hq1) (Nat.le_of_ble_eq_true rfl) dX10_areJoined_109 ?_
  refine V_aload_n hX dX10_areJoined_112 rfl rfl ?_
  refine V_iload_n hX dX10_areJoined_113 rfl rfl ?_
  obtain ⟨q2, hq2, hr⟩ := bnd hr
  refine C_RX10_238 hX (c_X10_sideOf (by omega) hq2) (Nat.le_of_ble_eq_true rfl) dX10_areJoined_114 ?_
  refine V_aload_n hX dX10_areJoined_117 rfl rfl ?_
  refine V_iload_n hX dX10_areJoined_118 rfl rfl ?_
  obtain ⟨q3, hq3, hr⟩ := bnd hr
  refine C_RX10_241 hX (c_X10_broadOf (by omega) hq3) (Nat.le_of_ble_eq_true rfl) dX10_areJoined_119 ?_
  refine V_iadd hX dX10_areJoined_122 ?_
  refine V_icmp_ge (tgt := 149) hX dX10_areJoined_123 (by decide) (fun h123 => ?_) (fun h123 => ?_)
  · rw [if_pos h123] at hr
    refine V_mask [true, true, true, true, true, false, false] ?_
    exact v_X10_areJoined_149 hd9 hX hE _ _ _ _ _ hr
  · rw [if_neg h123] at hr
    refine V_aload_n hX dX10_areJoined_126 rfl rfl ?_
    refine V_iload_n hX dX10_areJoined_127 rfl rfl ?_
    obtain ⟨q4, hq4, hr⟩ := bnd hr
    refine C_RX10_238 hX (c_X10_sideOf (by omega) hq4) (Nat.le_of_ble_eq_true rfl) dX10_areJoined_128 ?_
    refine V_aload_n hX dX10_areJoined_131 rfl rfl ?_
    refine V_iload_n hX dX10_areJoined_132 rfl rfl ?_
    obtain ⟨q5, hq5, hr⟩ := bnd hr
    refine C_RX10_238 hX (c_X10_sideOf (by omega) hq5) (Nat.le_of_ble_eq_true rfl) dX10_areJoined_133 ?_
    refine V_aload_n hX dX10_areJoined_136 rfl rfl ?_
    refine V_iload_n hX dX10_areJoined_137 rfl rfl ?_
    obtain ⟨q6, hq6, hr⟩ := bnd hr
    refine C_RX10_241 hX (c_X10_broadOf (by omega) hq6) (Nat.le_of_ble_eq_true rfl) dX10_areJoined_138 ?_
    refine V_iadd hX dX10_areJoined_141 ?_
    refine V_icmp_ge (tgt := 149) hX dX10_areJoined_142 (by decide) (fun h142 => ?_) (fun h142 => ?_)
    · rw [if_pos h142] at hr
      refine V_mask [true, true, true, true, true, false, false] ?_
      exact v_X10_areJoined_149 hd9 hX hE _ _ _ _ _ hr
    · rw [if_neg h142] at hr
      refine V_iconst hX dX10_areJoined_145 ic_1 ?_
      refine V_goto (tgt := 150) hX dX10_areJoined_146 (by decide) ?_
      refine V_mask [true, true, true, true, true, false, false] ?_
      exact v_X10_areJoined_150 hd9 hX hE _ _ _ _ _ _ hr
set_option maxRecDepth 100000 in
set_option maxHeartbeats 4000000 in
theorem v_X10_areJoined_100 {d : Nat} (hd9 : 3 ≤ d) {X : bX} (hX : bOk cX10_areJoined 7 RX10 d X) {r : (Int32 × Wd)} (hE : bEnd (some .boolean) (some (.int r.1)) r.2 X) : ∀ (x1 : Int32) (x2 : Int32) (x3 : Int32) (w : Wd), f_X10_areJoined_100 x1 x2 x3 w = some r → bV X 100 [some (.ref 33), some (.int x1), some (.int x2), some (.int x3), none, none, none] [] w := by
  intro x1 x2 x3 w hr
  obtain ⟨d, rfl⟩ : ∃ e, d = e + 1 := ⟨d - 1, by omega⟩
  unfold f_X10_areJoined_100 at hr
  refine V_iconst hX dX10_areJoined_100 ic_1 ?_
  refine V_goto (tgt := 105) hX dX10_areJoined_101 (by decide) ?_
  refine V_mask [true, true, true, true, false, false, false] ?_
  exact v_X10_areJoined_105 hd9 hX hE _ _ _ _ _ hr
set_option maxRecDepth 100000 in
set_option maxHeartbeats 4000000 in
theorem v_X10_areJoined_65 {d : Nat} (hd9 : 3 ≤ d) {X : bX} (hX : bOk cX10_areJoined 7 RX10 d X) {r : (Int32 × Wd)} (hE : bEnd (some .boolean) (some (.int r.1)) r.2 X) : ∀ (s0 : Int32) (x1 : Int32) (x2 : Int32) (w : Wd), f_X10_areJoined_65 s0 x1 x2 w = some r → bV X 65 [some (.ref 33), some (.int x1), some (.int x2), none, none, none, none] [.int s0] w := by
  intro s0 x1 x2 w hr
  obtain ⟨d, rfl⟩ : ∃ e, d = e + 1 := ⟨d - 1, by omega⟩
  unfold f_X10_areJoined_65 at hr
  refine V_istore_n hX dX10_areJoined_65 rfl (Nat.le_of_ble_eq_true rfl) rfl ?_
  refine V_aload_n hX dX10_areJoined_66 rfl rfl ?_
  refine V_iload_n hX dX10_areJoined_67 rfl rfl ?_
  refine V_iload_n hX dX10_areJoined_68 rfl rfl ?_
  obtain ⟨q1, hq1, hr⟩ := bnd hr
  refine C_RX10_235 hX (c_X10_between (by omega) hq1) (Nat.le_of_ble_eq_true rfl) dX10_areJoined_69 ?_
  refine V_iconst hX dX10_areJoined_72 ic_0 ?_
  refine V_aload_n hX dX10_areJoined_73 rfl rfl ?_
  refine G_RX10_44 hX dX10_areJoined_74 ?_
  obtain ⟨q2, hq2, hr⟩ := bnd hr
  refine C_RX10_86 hX (c_X10_in (by omega) hq2) (Nat.le_of_ble_eq_true rfl) dX10_areJoined_77 ?_
  refine V_if_ne (tgt := 100) hX dX10_areJoined_80 (by decide) (fun h80 => ?_) (fun h80 => ?_)
  · rw [if_neg h80] at hr
    refine V_mask [true, true, true, true, false, false, false] ?_
    exact v_X10_areJoined_100 hd9 hX hE _ _ _ _ hr
  · rw [if_pos h80] at hr
    refine V_aload_n hX dX10_areJoined_83 rfl rfl ?_
    refine V_iload_n hX dX10_areJoined_84 rfl rfl ?_
    refine V_iload_n hX dX10_areJoined_85 rfl rfl ?_
    obtain ⟨q3, hq3, hr⟩ := bnd hr
    refine C_RX10_235 hX (c_X10_between (by omega) hq3) (Nat.le_of_ble_eq_true rfl) dX10_areJoined_86 ?_
    refine V_iconst hX dX10_areJoined_89 ic_0 ?_
    refine V_aload_n hX dX10_areJoined_90 rfl rfl ?_
    refine G_RX10_44 hX dX10_areJoined_91 ?_
    obtain ⟨q4, hq4, hr⟩ := bnd hr
    refine C_RX10_86 hX (c_X10_in (by omega) hq4) (Nat.le_of_ble_eq_true rfl) dX10_areJoined_94 ?_
    refine V_if_eq (tgt := 104) hX dX10_areJoined_97 (by decide) (fun h97 => ?_) (fun h97 => ?_)
    · rw [if_pos h97] at hr
      refine V_iconst hX dX10_areJoined_104 ic_0 ?_
      refine V_mask [true, true, true, true, false, false, false] ?_
      exact v_X10_areJoined_105 hd9 hX hE _ _ _ _ _ hr
    · rw [if_neg h97] at hr
      refine V_mask [true, true, true, true, false, false, false] ?_
      exact v_X10_areJoined_100 hd9 hX hE _ _ _ _ hr
set_option maxRecDepth 100000 in
set_option maxHeartbeats 4000000 in
theorem v_X10_areJoined_64 {d : Nat} (hd9 : 3 ≤ d) {X : bX} (hX : bOk cX10_areJoined 7 RX10 d X) {r : (Int32 × Wd)} (hE : bEnd (some .boolean) (some (.int r.1)) r.2 X) : ∀ (x1 : Int32) (x2 : Int32) (w : Wd), f_X10_areJoined_64 x1 x2 w = some r → bV X 64 [some (.ref 33), some (.int x1), some (.int x2), none, none, none, none] [] w := by
  intro x1 x2 w hr
  obtain ⟨d, rfl⟩ : ∃ e, d = e + 1 := ⟨d - 1, by omega⟩
  unfold f_X10_areJoined_64 at hr
  refine V_iconst hX dX10_areJoined_64 ic_0 ?_
  refine V_mask [true, true, true, false, false, false, false] ?_
  exact v_X10_areJoined_65 hd9 hX hE _ _ _ _ hr
set_option maxRecDepth 100000 in
set_option maxHeartbeats 4000000 in
theorem c_X10_areJoined {d : Nat} (hd9 : 3 ≤ d) {p0 : Int32} {p1 : Int32} {w : Wd} {r : (Int32 × Wd)} (hr : f_X10_areJoined p0 p1 w = some r) : Con d yX10_areJoined cX10_areJoined 7 (some .boolean) [.ref 33, .int p0, .int p1] w (some (.int r.1)) r.2 := by
  refine Con_of (by decide) (Nat.le_of_ble_eq_true rfl) (fun X hX hE => ?_)
  have hX : bOk cX10_areJoined 7 RX10 d X := hX
  show bV X 0 [some (.ref 33), some (.int p0), some (.int p1), none, none, none, none] [] w
  obtain ⟨d, rfl⟩ : ∃ e, d = e + 1 := ⟨d - 1, by omega⟩
  unfold f_X10_areJoined at hr
  refine V_aload_n hX dX10_areJoined_0 rfl rfl ?_
  refine V_iload_n hX dX10_areJoined_1 rfl rfl ?_
  refine V_iconst hX dX10_areJoined_2 ic_0 ?_
  obtain ⟨q1, hq1, hr⟩ := bnd hr
  refine C_RX10_184 hX (c_X10_of (by omega) hq1) (Nat.le_of_ble_eq_true rfl) dX10_areJoined_3 ?_
  refine V_aload_n hX dX10_areJoined_6 rfl rfl ?_
  refine V_iload_n hX dX10_areJoined_7 rfl rfl ?_
  refine V_iconst hX dX10_areJoined_8 ic_0 ?_
  obtain ⟨q2, hq2, hr⟩ := bnd hr
  refine C_RX10_184 hX (c_X10_of (by omega) hq2) (Nat.le_of_ble_eq_true rfl) dX10_areJoined_9 ?_
  refine V_icmp_ne (tgt := 64) hX dX10_areJoined_12 (by decide) (fun h12 => ?_) (fun h12 => ?_)
  · rw [if_neg h12] at hr
    refine V_mask [true, true, true, false, false, false, false] ?_
    exact v_X10_areJoined_64 hd9 hX hE _ _ _ hr
  · rw [if_pos h12] at hr
    refine V_aload_n hX dX10_areJoined_15 rfl rfl ?_
    refine V_iload_n hX dX10_areJoined_16 rfl rfl ?_
    refine V_iconst hX dX10_areJoined_17 ic_2 ?_
    obtain ⟨q3, hq3, hr⟩ := bnd hr
    refine C_RX10_184 hX (c_X10_of (by omega) hq3) (Nat.le_of_ble_eq_true rfl) dX10_areJoined_18 ?_
    refine V_aload_n hX dX10_areJoined_21 rfl rfl ?_
    refine V_iload_n hX dX10_areJoined_22 rfl rfl ?_
    refine V_iconst hX dX10_areJoined_23 ic_2 ?_
    obtain ⟨q4, hq4, hr⟩ := bnd hr
    refine C_RX10_184 hX (c_X10_of (by omega) hq4) (Nat.le_of_ble_eq_true rfl) dX10_areJoined_24 ?_
    refine V_icmp_ne (tgt := 64) hX dX10_areJoined_27 (by decide) (fun h27 => ?_) (fun h27 => ?_)
    · rw [if_neg h27] at hr
      refine V_mask [true, true, true, false, false, false, false] ?_
      exact v_X10_areJoined_64 hd9 hX hE _ _ _ hr
    · rw [if_pos h27] at hr
      refine V_aload_n hX dX10_areJoined_30 rfl rfl ?_
      refine V_iload_n hX dX10_areJoined_31 rfl rfl ?_
      refine V_iconst hX dX10_areJoined_32 ic_4 ?_
      obtain ⟨q5, hq5, hr⟩ := bnd hr
      refine C_RX10_184 hX (c_X10_of (by omega) hq5) (Nat.le_of_ble_eq_true rfl) dX10_areJoined_33 ?_
      refine V_aload_n hX dX10_areJoined_36 rfl rfl ?_
      refine V_iload_n hX dX10_areJoined_37 rfl rfl ?_
      refine V_iconst hX dX10_areJoined_38 ic_4 ?_
      obtain ⟨q6, hq6, hr⟩ := bnd hr
      refine C_RX10_184 hX (c_X10_of (by omega) hq6) (Nat.le_of_ble_eq_true rfl) dX10_areJoined_39 ?_
      refine V_icmp_ne (tgt := 64) hX dX10_areJoined_42 (by decide) (fun h42 => ?_) (fun h42 => ?_)
      · rw [if_neg h42] at hr
        refine V_mask [true, true, true, false, false, false, false] ?_
        exact v_X10_areJoined_64 hd9 hX hE _ _ _ hr
      · rw [if_pos h42] at hr
        refine V_aload_n hX dX10_areJoined_45 rfl rfl ?_
        refine V_iload_n hX dX10_areJoined_46 rfl rfl ?_
        refine V_iconst hX dX10_areJoined_47 ic_5 ?_
        obtain ⟨q7, hq7, hr⟩ := bnd hr
        refine C_RX10_184 hX (c_X10_of (by omega) hq7) (Nat.le_of_ble_eq_true rfl) dX10_areJoined_48 ?_
        refine V_aload_n hX dX10_areJoined_51 rfl rfl ?_
        refine V_iload_n hX dX10_areJoined_52 rfl rfl ?_
        refine V_iconst hX dX10_areJoined_53 ic_5 ?_
        obtain ⟨q8, hq8, hr⟩ := bnd hr
        refine C_RX10_184 hX (c_X10_of (by omega) hq8) (Nat.le_of_ble_eq_true rfl) dX10_areJoined_54 ?_
        refine V_icmp_ne (tgt := 64) hX dX10_areJoined_57 (by decide) (fun h57 => ?_) (fun h57 => ?_)
        · rw [if_neg h57] at hr
          refine V_mask [true, true, true, false, false, false, false] ?_
          exact v_X10_areJoined_64 hd9 hX hE _ _ _ hr
        · rw [if_pos h57] at hr
          refine V_iconst hX dX10_areJoined_60 ic_1 ?_
          refine V_goto (tgt := 65) hX dX10_areJoined_61 (by decide) ?_
          refine V_mask [true, true, true, false, false, false, false] ?_
          exact v_X10_areJoined_65 hd9 hX hE _ _ _ _ hr
