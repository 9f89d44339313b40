def f_X10_terrier_66 : Nat → Int32 → Int32 → Wd → Option (Int32 × Wd)
  | 0, _, _, _ => none
  | n + 1, x1, x4, w => if 5 ≤ x4 then
        (some (1, w))
      else
        (if x4 = x1 then
          (if inB x4 5 then (if inB x4 5 then (f_X10_terrier_66 n x1 (x4 + 1) (wS w 50 (ix x4) (w.1 50 (ix x4)))) else none) else none)
        else
          (if inB x4 5 then (if inB x1 5 then (if inB x4 5 then (f_X10_terrier_66 n x1 (x4 + 1) (wS w 50 (ix x4) (((w.1 50 (ix x4)) &&& ((jshl 1 x1) ^^^ (-1))) ||| (jshl ((jshr (w.1 50 (ix x1)) x4) &&& 1) x1)))) else none) else none) else none))
def f_X10_terrier (p0 : Int32) (p1 : Int32) (p2 : Int32) (w : Wd) : Option (Int32 × Wd) := Option.bind (f_X10_in p0 0 4 w) fun q1 =>
    if q1.1 = 0 then
      (some ((-2), q1.2))
    else
      (Option.bind (f_X10_in p1 0 30 q1.2) fun q2 =>
      if q2.1 = 0 then
        (some ((-3), q2.2))
      else
        (Option.bind (f_X10_in p2 0 31 q2.2) fun q3 =>
        if q3.1 = 0 then
          (some ((-3), q3.2))
        else
          (if inB p0 5 then (if p1 = 0 then
            (if inB p0 5 then (f_X10_terrier_66 fu p0 0 (wS (wS q3.2 49 (ix p0) p1) 50 (ix p0) 0)) else none)
          else
            (if inB p0 5 then (f_X10_terrier_66 fu p0 0 (wS (wS q3.2 49 (ix p0) p1) 50 (ix p0) (p2 &&& ((jshl 1 p0) ^^^ (-1))))) else none)) else none)))
set_option maxRecDepth 100000 in
set_option maxHeartbeats 4000000 in
theorem v_X10_terrier_66 {d : Nat} (hd9 : 1 ≤ d) {X : bX} (hX : bOk cX10_terrier 5 RX10 d X) {r : (Int32 × Wd)} (hE : bEnd (some .int) (some (.int r.1)) r.2 X) : ∀ (n : Nat) (x1 : Int32) (x4 : Int32) (w : Wd), f_X10_terrier_66 n x1 x4 w = some r → bV X 66 [some (.ref 33), some (.int x1), none, none, some (.int x4)] [] w := by
  obtain ⟨d, rfl⟩ : ∃ e, d = e + 1 := ⟨d - 1, by omega⟩
  intro n
  induction n with
  | zero => intro x1 x4 w hr; exact absurd hr (by simp [f_X10_terrier_66])
  | succ n ih =>
    intro x1 x4 w hr
    rw [f_X10_terrier_66] at hr
    refine V_iload hX dX10_terrier_66 rfl ?_
    refine V_iconst hX dX10_terrier_68 ic_5 ?_
    refine V_icmp_ge (tgt := 128) hX dX10_terrier_69 (by decide) (fun h69 => ?_) (fun h69 => ?_)
    · rw [if_pos h69] at hr
      refine V_iconst hX dX10_terrier_128 ic_1 ?_
      cases hr
      exact V_iret hX hE rfl dX10_terrier_129
    · rw [if_neg h69] at hr
      refine V_aload_n hX dX10_terrier_72 rfl rfl ?_
      refine G_RX10_65 hX dX10_terrier_73 ?_
      refine V_iload hX dX10_terrier_76 rfl ?_
      refine V_iload hX dX10_terrier_78 rfl ?_
      refine V_iload_n hX dX10_terrier_80 rfl rfl ?_
      refine V_icmp_ne (tgt := 94) hX dX10_terrier_81 (by decide) (fun h81 => ?_) (fun h81 => ?_)
      · rw [if_neg h81] at hr
        refine V_aload_n hX dX10_terrier_94 rfl rfl ?_
        refine G_RX10_65 hX dX10_terrier_95 ?_
        refine V_iload hX dX10_terrier_98 rfl ?_
        obtain ⟨hn100, hr⟩ := ifn hr
        refine V_iald hX (Nat.le_of_ble_eq_true rfl) lay_50 (inB_in hn100) dX10_terrier_100 ?_
        refine V_iconst hX dX10_terrier_101 ic_1 ?_
        refine V_iload_n hX dX10_terrier_102 rfl rfl ?_
        refine V_ishl hX dX10_terrier_103 ?_
        refine V_iconst hX dX10_terrier_104 ic_m1 ?_
        refine V_ixor hX dX10_terrier_105 ?_
        refine V_iand hX dX10_terrier_106 ?_
        refine V_aload_n hX dX10_terrier_107 rfl rfl ?_
        refine G_RX10_65 hX dX10_terrier_108 ?_
        refine V_iload_n hX dX10_terrier_111 rfl rfl ?_
        obtain ⟨hn112, hr⟩ := ifn hr
        refine V_iald hX (Nat.le_of_ble_eq_true rfl) lay_50 (inB_in hn112) dX10_terrier_112 ?_
        refine V_iload hX dX10_terrier_113 rfl ?_
        refine V_ishr hX dX10_terrier_115 ?_
        refine V_iconst hX dX10_terrier_116 ic_1 ?_
        refine V_iand hX dX10_terrier_117 ?_
        refine V_iload_n hX dX10_terrier_118 rfl rfl ?_
        refine V_ishl hX dX10_terrier_119 ?_
        refine V_ior hX dX10_terrier_120 ?_
        obtain ⟨hn121, hr⟩ := ifn hr
        refine V_iast hX (Nat.le_of_ble_eq_true rfl) lay_50 (inB_in hn121) dX10_terrier_121 ?_
        refine V_iinc hX dX10_terrier_122 rfl (ii_1 _) (Nat.le_of_ble_eq_true rfl) rfl ?_
        refine V_goto (tgt := 66) hX dX10_terrier_125 (by decide) ?_
        refine V_mask [true, true, false, false, true] ?_
        exact ih _ _ _ hr
      · rw [if_pos h81] at hr
        refine V_aload_n hX dX10_terrier_84 rfl rfl ?_
        refine G_RX10_65 hX dX10_terrier_85 ?_
        refine V_iload hX dX10_terrier_88 rfl ?_
        obtain ⟨hn90, hr⟩ := ifn hr
        refine V_iald hX (Nat.le_of_ble_eq_true rfl) lay_50 (inB_in hn90) dX10_terrier_90 ?_
        refine V_goto (tgt := 121) hX dX10_terrier_91 (by decide) ?_
        obtain ⟨hn121, hr⟩ := ifn hr
        refine V_iast hX (Nat.le_of_ble_eq_true rfl) lay_50 (inB_in hn121) dX10_terrier_121 ?_
        refine V_iinc hX dX10_terrier_122 rfl (ii_1 _) (Nat.le_of_ble_eq_true rfl) rfl ?_
        refine V_goto (tgt := 66) hX dX10_terrier_125 (by decide) ?_
        refine V_mask [true, true, false, false, true] ?_
        exact ih _ _ _ hr
set_option maxRecDepth 100000 in
set_option maxHeartbeats 4000000 in
theorem c_X10_terrier {d : Nat} (hd9 : 1 ≤ d) {p0 : Int32} {p1 : Int32} {p2 : Int32} {w : Wd} {r : (Int32 × Wd)} (hr : f_X10_terrier p0 p1 p2 w = some r) : Con d yX10_terrier cX10_terrier 5 (some .int) [.ref 33, .int p0, .int p1, .int p2] w (some (.int r.1)) r.2 := by
  refine Con_of (by decide) (Nat.le_of_ble_eq_true rfl) (fun X hX hE => ?_)
  have hX : bOk cX10_terrier 5 RX10 d X := hX
  show bV X 0 [some (.ref 33), some (.int p0), some (.int p1), some (.int p2), none] [] w
  obtain ⟨d, rfl⟩ : ∃ e, d = e + 1 := ⟨d - 1, by omega⟩
  unfold f_X10_terrier at hr
  refine V_iload_n hX dX10_terrier_0 rfl rfl ?_
  refine V_iconst hX dX10_terrier_1 ic_0 ?_
  refine V_iconst hX dX10_terrier_2 ic_4 ?_
  obtain ⟨q1, hq1, hr⟩ := bnd hr
  refine C_RX10_86 hX (c_X10_in (by omega) hq1) (Nat.le_of_ble_eq_true rfl) dX10_terrier_3 ?_
  refine V_if_ne (tgt := 12) hX dX10_terrier_6 (by decide) (fun h6 => ?_) (fun h6 => ?_)
  · rw [if_neg h6] at hr
    refine V_iload_n hX dX10_terrier_12 rfl rfl ?_
    refine V_iconst hX dX10_terrier_13 ic_0 ?_
    refine V_bipush hX dX10_terrier_14 bp_30 ?_
    obtain ⟨q2, hq2, hr⟩ := bnd hr
    refine C_RX10_86 hX (c_X10_in (by omega) hq2) (Nat.le_of_ble_eq_true rfl) dX10_terrier_16 ?_
    refine V_if_eq (tgt := 32) hX dX10_terrier_19 (by decide) (fun h19 => ?_) (fun h19 => ?_)
    · rw [if_pos h19] at hr
      refine V_bipush hX dX10_terrier_32 bp_m3 ?_
      cases hr
      exact V_iret hX hE rfl dX10_terrier_34
    · rw [if_neg h19] at hr
      refine V_iload_n hX dX10_terrier_22 rfl rfl ?_
      refine V_iconst hX dX10_terrier_23 ic_0 ?_
      refine V_bipush hX dX10_terrier_24 bp_31 ?_
      obtain ⟨q3, hq3, hr⟩ := bnd hr
      refine C_RX10_86 hX (c_X10_in (by omega) hq3) (Nat.le_of_ble_eq_true rfl) dX10_terrier_26 ?_
      refine V_if_ne (tgt := 35) hX dX10_terrier_29 (by decide) (fun h29 => ?_) (fun h29 => ?_)
      · rw [if_neg h29] at hr
        refine V_aload_n hX dX10_terrier_35 rfl rfl ?_
        refine G_RX10_62 hX dX10_terrier_36 ?_
        refine V_iload_n hX dX10_terrier_39 rfl rfl ?_
        refine V_iload_n hX dX10_terrier_40 rfl rfl ?_
        obtain ⟨hn41, hr⟩ := ifn hr
        refine V_iast hX (Nat.le_of_ble_eq_true rfl) lay_49 (inB_in hn41) dX10_terrier_41 ?_
        refine V_aload_n hX dX10_terrier_42 rfl rfl ?_
        refine G_RX10_65 hX dX10_terrier_43 ?_
        refine V_iload_n hX dX10_terrier_46 rfl rfl ?_
        refine V_iload_n hX dX10_terrier_47 rfl rfl ?_
        refine V_if_ne (tgt := 55) hX dX10_terrier_48 (by decide) (fun h48 => ?_) (fun h48 => ?_)
        · rw [if_neg h48] at hr
          refine V_iload_n hX dX10_terrier_55 rfl rfl ?_
          refine V_iconst hX dX10_terrier_56 ic_1 ?_
          refine V_iload_n hX dX10_terrier_57 rfl rfl ?_
          refine V_ishl hX dX10_terrier_58 ?_
          refine V_iconst hX dX10_terrier_59 ic_m1 ?_
          refine V_ixor hX dX10_terrier_60 ?_
          refine V_iand hX dX10_terrier_61 ?_
          obtain ⟨hn62, hr⟩ := ifn hr
          refine V_iast hX (Nat.le_of_ble_eq_true rfl) lay_50 (inB_in hn62) dX10_terrier_62 ?_
          refine V_iconst hX dX10_terrier_63 ic_0 ?_
          refine V_istore hX dX10_terrier_64 (Nat.le_of_ble_eq_true rfl) rfl ?_
          refine V_mask [true, true, false, false, true] ?_
          exact v_X10_terrier_66 hd9 hX hE _ _ _ _ hr
        · rw [if_pos h48] at hr
          refine V_iconst hX dX10_terrier_51 ic_0 ?_
          refine V_goto (tgt := 62) hX dX10_terrier_52 (by decide) ?_
          obtain ⟨hn62, hr⟩ := ifn hr
          refine V_iast hX (Nat.le_of_ble_eq_true rfl) lay_50 (inB_in hn62) dX10_terrier_62 ?_
          refine V_iconst hX dX10_terrier_63 ic_0 ?_
          refine V_istore hX dX10_terrier_64 (Nat.le_of_ble_eq_true rfl) rfl ?_
          refine V_mask [true, true, false, false, true] ?_
          exact v_X10_terrier_66 hd9 hX hE _ _ _ _ hr
      · rw [if_pos h29] at hr
        refine V_bipush hX dX10_terrier_32 bp_m3 ?_
        cases hr
        exact V_iret hX hE rfl dX10_terrier_34
  · rw [if_pos h6] at hr
    refine V_bipush hX dX10_terrier_9 bp_m2 ?_
    cases hr
    exact V_iret hX hE rfl dX10_terrier_11
def f_X10_apart (p0 : Int32) (p1 : Int32) (p2 : Int32) (p3 : Int32) (w : Wd) : Option (Int32 × Wd) := if p0 ≤ (p2 + p3) then
      (if p2 ≤ (p0 + p1) then
        (some (0, w))
      else
        (some (((p2 - p0) - p1), w)))
    else
      (some (((p0 - p2) - p3), w))
set_option maxRecDepth 100000 in
set_option maxHeartbeats 4000000 in
theorem c_X10_apart {d : Nat} (hd9 : 0 ≤ d) {p0 : Int32} {p1 : Int32} {p2 : Int32} {p3 : Int32} {w : Wd} {r : (Int32 × Wd)} (hr : f_X10_apart p0 p1 p2 p3 w = some r) : Con d yX10_apart cX10_apart 4 (some .int) [.int p0, .int p1, .int p2, .int p3] w (some (.int r.1)) r.2 := by
  refine Con_of (by decide) (Nat.le_of_ble_eq_true rfl) (fun X hX hE => ?_)
  have hX : bOk cX10_apart 4 RX10 d X := hX
  show bV X 0 [some (.int p0), some (.int p1), some (.int p2), some (.int p3)] [] w
  unfold f_X10_apart at hr
  refine V_iload_n hX dX10_apart_0 rfl rfl ?_
  refine V_iload_n hX dX10_apart_1 rfl rfl ?_
  refine V_iload_n hX dX10_apart_2 rfl rfl ?_
  refine V_iadd hX dX10_apart_3 ?_
  refine V_icmp_le (tgt := 15) hX dX10_apart_4 (by decide) (fun h4 => ?_) (fun h4 => ?_)
  · rw [if_pos h4] at hr
    refine V_iload_n hX dX10_apart_15 rfl rfl ?_
    refine V_iload_n hX dX10_apart_16 rfl rfl ?_
    refine V_iload_n hX dX10_apart_17 rfl rfl ?_
    refine V_iadd hX dX10_apart_18 ?_
    refine V_icmp_le (tgt := 30) hX dX10_apart_19 (by decide) (fun h19 => ?_) (fun h19 => ?_)
    · rw [if_pos h19] at hr
      refine V_iconst hX dX10_apart_30 ic_0 ?_
      cases hr
      exact V_iret hX hE rfl dX10_apart_31
    · rw [if_neg h19] at hr
      refine V_iload_n hX dX10_apart_22 rfl rfl ?_
      refine V_iload_n hX dX10_apart_23 rfl rfl ?_
      refine V_isub hX dX10_apart_24 ?_
      refine V_iload_n hX dX10_apart_25 rfl rfl ?_
      refine V_isub hX dX10_apart_26 ?_
      refine V_goto (tgt := 31) hX dX10_apart_27 (by decide) ?_
      cases hr
      exact V_iret hX hE rfl dX10_apart_31
  · rw [if_neg h4] at hr
    refine V_iload_n hX dX10_apart_7 rfl rfl ?_
    refine V_iload_n hX dX10_apart_8 rfl rfl ?_
    refine V_isub hX dX10_apart_9 ?_
    refine V_iload_n hX dX10_apart_10 rfl rfl ?_
    refine V_isub hX dX10_apart_11 ?_
    refine V_goto (tgt := 31) hX dX10_apart_12 (by decide) ?_
    cases hr
    exact V_iret hX hE rfl dX10_apart_31
def f_X10_doTouch (p0 : Int32) (p1 : Int32) (w : Wd) : Option (Int32 × Wd) := if inB p0 14 then (if inB p0 14 then (if inB p1 14 then (if inB p1 14 then (Option.bind (f_X10_apart (w.1 35 (ix p0)) (w.1 37 (ix p0)) (w.1 35 (ix p1)) (w.1 37 (ix p1)) w) fun q1 =>
    if (q1.2.1 33 14) < q1.1 then
      (some (0, q1.2))
    else
      (if inB p0 14 then (if inB p0 14 then (if inB p1 14 then (if inB p1 14 then (Option.bind (f_X10_apart (q1.2.1 36 (ix p0)) (q1.2.1 38 (ix p0)) (q1.2.1 36 (ix p1)) (q1.2.1 38 (ix p1)) q1.2) fun q2 =>
      if (q2.2.1 33 14) < q2.1 then
        (some (0, q2.2))
      else
        (some (1, q2.2))) else none) else none) else none) else none)) else none) else none) else none) else none
set_option maxRecDepth 100000 in
set_option maxHeartbeats 4000000 in
theorem c_X10_doTouch {d : Nat} (hd9 : 1 ≤ d) {p0 : Int32} {p1 : Int32} {w : Wd} {r : (Int32 × Wd)} (hr : f_X10_doTouch p0 p1 w = some r) : Con d yX10_doTouch cX10_doTouch 3 (some .boolean) [.ref 33, .int p0, .int p1] w (some (.int r.1)) r.2 := by
  refine Con_of (by decide) (Nat.le_of_ble_eq_true rfl) (fun X hX hE => ?_)
  have hX : bOk cX10_doTouch 3 RX10 d X := hX
  show bV X 0 [some (.ref 33), some (.int p0), some (.int p1)] [] w
  obtain ⟨d, rfl⟩ : ∃ e, d = e + 1 := ⟨d - 1, by omega⟩
  unfold f_X10_doTouch at hr
  refine V_aload_n hX dX10_doTouch_0 rfl rfl ?_
  refine G_RX10_13 hX dX10_doTouch_1 ?_
  refine V_iload_n hX dX10_doTouch_4 rfl rfl ?_
  obtain ⟨hn5, hr⟩ := ifn hr
  refine V_iald hX (Nat.le_of_ble_eq_true rfl) lay_35 (inB_in hn5) dX10_doTouch_5 ?_
  refine V_aload_n hX dX10_doTouch_6 rfl rfl ?_
  refine G_RX10_19 hX dX10_doTouch_7 ?_
  refine V_iload_n hX dX10_doTouch_10 rfl rfl ?_
  obtain ⟨hn11, hr⟩ := ifn hr
  refine V_iald hX (Nat.le_of_ble_eq_true rfl) lay_37 (inB_in hn11) dX10_doTouch_11 ?_
  refine V_aload_n hX dX10_doTouch_12 rfl rfl ?_
  refine G_RX10_13 hX dX10_doTouch_13 ?_
  refine V_iload_n hX dX10_doTouch_16 rfl rfl ?_
  obtain ⟨hn17, hr⟩ := ifn hr
  refine V_iald hX (Nat.le_of_ble_eq_true rfl) lay_35 (inB_in hn17) dX10_doTouch_17 ?_
  refine V_aload_n hX dX10_doTouch_18 rfl rfl ?_
  refine G_RX10_19 hX dX10_doTouch_19 ?_
  refine V_iload_n hX dX10_doTouch_22 rfl rfl ?_
  obtain ⟨hn23, hr⟩ := ifn hr
  refine V_iald hX (Nat.le_of_ble_eq_true rfl) lay_37 (inB_in hn23) dX10_doTouch_23 ?_
  obtain ⟨q1, hq1, hr⟩ := bnd hr
  refine C_RX10_266 hX (c_X10_apart (by omega) hq1) (Nat.le_of_ble_eq_true rfl) dX10_doTouch_24 ?_
  refine V_aload_n hX dX10_doTouch_27 rfl rfl ?_
  refine G_RX10_44 hX dX10_doTouch_28 ?_
  refine V_icmp_gt (tgt := 72) hX dX10_doTouch_31 (by decide) (fun h31 => ?_) (fun h31 => ?_)
  · rw [if_pos h31] at hr
    refine V_iconst hX dX10_doTouch_72 ic_0 ?_
    cases hr
    exact V_iret hX hE rfl dX10_doTouch_73
  · rw [if_neg h31] at hr
    refine V_aload_n hX dX10_doTouch_34 rfl rfl ?_
    refine G_RX10_16 hX dX10_doTouch_35 ?_
    refine V_iload_n hX dX10_doTouch_38 rfl rfl ?_
    obtain ⟨hn39, hr⟩ := ifn hr
    refine V_iald hX (Nat.le_of_ble_eq_true rfl) lay_36 (inB_in hn39) dX10_doTouch_39 ?_
    refine V_aload_n hX dX10_doTouch_40 rfl rfl ?_
    refine G_RX10_22 hX dX10_doTouch_41 ?_
    refine V_iload_n hX dX10_doTouch_44 rfl rfl ?_
    obtain ⟨hn45, hr⟩ := ifn hr
    refine V_iald hX (Nat.le_of_ble_eq_true rfl) lay_38 (inB_in hn45) dX10_doTouch_45 ?_
    refine V_aload_n hX dX10_doTouch_46 rfl rfl ?_
    refine G_RX10_16 hX dX10_doTouch_47 ?_
    refine V_iload_n hX dX10_doTouch_50 rfl rfl ?_
    obtain ⟨hn51, hr⟩ := ifn hr
    refine V_iald hX (Nat.le_of_ble_eq_true rfl) lay_36 (inB_in hn51) dX10_doTouch_51 ?_
    refine V_aload_n hX dX10_doTouch_52 rfl rfl ?_
    refine G_RX10_22 hX dX10_doTouch_53 ?_
    refine V_iload_n hX dX10_doTouch_56 rfl rfl ?_
    obtain ⟨hn57, hr⟩ := ifn hr
    refine V_iald hX (Nat.le_of_ble_eq_true rfl) lay_38 (inB_in hn57) dX10_doTouch_57 ?_
    obtain ⟨q2, hq2, hr⟩ := bnd hr
    refine C_RX10_266 hX (c_X10_apart (by omega) hq2) (Nat.le_of_ble_eq_true rfl) dX10_doTouch_58 ?_
    refine V_aload_n hX dX10_doTouch_61 rfl rfl ?_
    refine G_RX10_44 hX dX10_doTouch_62 ?_
    refine V_icmp_gt (tgt := 72) hX dX10_doTouch_65 (by decide) (fun h65 => ?_) (fun h65 => ?_)
    · rw [if_pos h65] at hr
      refine V_iconst hX dX10_doTouch_72 ic_0 ?_
      cases hr
      exact V_iret hX hE rfl dX10_doTouch_73
    · rw [if_neg h65] at hr
      refine V_iconst hX dX10_doTouch_68 ic_1 ?_
      refine V_goto (tgt := 73) hX dX10_doTouch_69 (by decide) ?_
      cases hr
      exact V_iret hX hE rfl dX10_doTouch_73
def f_X10_offOf (p0 : Int32) (p1 : Int32) (w : Wd) : Option (Int32 × Wd) := if inB p0 5 then (Option.bind (f_X10_of p1 1 w) fun q1 =>
    if 0 ≤ ((w.1 49 (ix p0)) - q1.1) then
      (some (((w.1 49 (ix p0)) - q1.1), q1.2))
    else
      (some ((-((w.1 49 (ix p0)) - q1.1)), q1.2))) else none
set_option maxRecDepth 100000 in
set_option maxHeartbeats 4000000 in
theorem c_X10_offOf {d : Nat} (hd9 : 1 ≤ d) {p0 : Int32} {p1 : Int32} {w : Wd} {r : (Int32 × Wd)} (hr : f_X10_offOf p0 p1 w = some r) : Con d yX10_offOf cX10_offOf 4 (some .int) [.ref 33, .int p0, .int p1] w (some (.int r.1)) r.2 := by
  refine Con_of (by decide) (Nat.le_of_ble_eq_true rfl) (fun X hX hE => ?_)
  have hX : bOk cX10_offOf 4 RX10 d X := hX
  show bV X 0 [some (.ref 33), some (.int p0), some (.int p1), none] [] w
  obtain ⟨d, rfl⟩ : ∃ e, d = e + 1 := ⟨d - 1, by omega⟩
  unfold f_X10_offOf at hr
  refine V_aload_n hX dX10_offOf_0 rfl rfl ?_
  refine G_RX10_62 hX dX10_offOf_1 ?_
  refine V_iload_n hX dX10_offOf_4 rfl rfl ?_
  obtain ⟨hn5, hr⟩ := ifn hr
  refine V_iald hX (Nat.le_of_ble_eq_true rfl) lay_49 (inB_in hn5) dX10_offOf_5 ?_
  refine V_aload_n hX dX10_offOf_6 rfl rfl ?_
  refine V_iload_n hX dX10_offOf_7 rfl rfl ?_
  refine V_iconst hX dX10_offOf_8 ic_1 ?_
  obtain ⟨q1, hq1, hr⟩ := bnd hr
  refine C_RX10_184 hX (c_X10_of (by omega) hq1) (Nat.le_of_ble_eq_true rfl) dX10_offOf_9 ?_
  refine V_isub hX dX10_offOf_12 ?_
  refine V_istore_n hX dX10_offOf_13 rfl (Nat.le_of_ble_eq_true rfl) rfl ?_
  refine V_iload_n hX dX10_offOf_14 rfl rfl ?_
  refine V_if_ge (tgt := 23) hX dX10_offOf_15 (by decide) (fun h15 => ?_) (fun h15 => ?_)
  · rw [if_pos h15] at hr
    refine V_iload_n hX dX10_offOf_23 rfl rfl ?_
    cases hr
    exact V_iret hX hE rfl dX10_offOf_24
  · rw [if_neg h15] at hr
    refine V_iload_n hX dX10_offOf_18 rfl rfl ?_
    refine V_ineg hX dX10_offOf_19 ?_
    refine V_goto (tgt := 24) hX dX10_offOf_20 (by decide) ?_
    cases hr
    exact V_iret hX hE rfl dX10_offOf_24
def f_X10_mayHave_25 : Nat → Int32 → Int32 → Int32 → Wd → Option (Int32 × Wd)
  | 0, _, _, _, _ => none
  | n + 1, x1, x2, x3, w => if x1 ≤ x3 then
        (some (1, w))
      else
        (if inB x3 5 then (if (w.1 49 (ix x3)) ≤ 0 then
          (f_X10_mayHave_25 n x1 x2 (x3 + 1) w)
        else
          (if inB x3 6 then (if (w.1 51 (ix x3)) = x2 then
            (some (0, w))
          else
            (if inB x1 5 then (if ((jshr (w.1 50 (ix x1)) x3) &&& 1) = 1 then
              (if inB x3 6 then (Option.bind (f_X10_doTouch (w.1 51 (ix x3)) x2 w) fun q1 =>
              if q1.1 = 0 then
                (some (0, q1.2))
              else
                (f_X10_mayHave_25 n x1 x2 (x3 + 1) q1.2)) else none)
            else
              (f_X10_mayHave_25 n x1 x2 (x3 + 1) w)) else none)) else none)) else none)
def f_X10_mayHave (p0 : Int32) (p1 : Int32) (w : Wd) : Option (Int32 × Wd) := Option.bind (f_X10_isBundle p1 w) fun q1 =>
    if q1.1 = 0 then
      (some (0, q1.2))
    else
      (Option.bind (f_X10_offOf p0 p1 q1.2) fun q2 =>
      if q2.1 ≤ (q2.2.1 33 13) then
        (f_X10_mayHave_25 fu p0 p1 0 q2.2)
      else
        (some (0, q2.2)))
set_option maxRecDepth 100000 in
set_option maxHeartbeats 4000000 in
theorem v_X10_mayHave_25 {d : Nat} (hd9 : 3 ≤ d) {X : bX} (hX : bOk cX10_mayHave 4 RX10 d X) {r : (Int32 × Wd)} (hE : bEnd (some .boolean) (some (.int r.1)) r.2 X) : ∀ (n : Nat) (x1 : Int32) (x2 : Int32) (x3 : Int32) (w : Wd), f_X10_mayHave_25 n x1 x2 x3 w = some r → bV X 25 [some (.ref 33), some (.int x1), some (.int x2), some (.int x3)] [] w := by
  obtain ⟨d, rfl⟩ : ∃ e, d = e + 1 := ⟨d - 1, by omega⟩
  intro n
  induction n with
  | zero => intro x1 x2 x3 w hr; exact absurd hr (by simp [f_X10_mayHave_25])
  | succ n ih =>
    intro x1 x2 x3 w hr
    rw [f_X10_mayHave_25] at hr
    refine V_iload_n hX dX10_mayHave_25 rfl rfl ?_
    refine V_iload_n hX dX10_mayHave_26 rfl rfl ?_
    refine V_icmp_ge (tgt := 85) hX dX10_mayHave_27 (by decide) (fun h27 => ?_) (fun h27 => ?_)
    · rw [if_pos h27] at hr
      refine V_iconst hX dX10_mayHave_85 ic_1 ?_
      cases hr
      exact V_iret hX hE rfl dX10_mayHave_86
    · rw [if_neg h27] at hr
      refine V_aload_n hX dX10_mayHave_30 rfl rfl ?_
      refine G_RX10_62 hX dX10_mayHave_31 ?_
      refine V_iload_n hX dX10_mayHave_34 rfl rfl ?_
      obtain ⟨hn35, hr⟩ := ifn hr
      refine V_iald hX (Nat.le_of_ble_eq_true rfl) lay_49 (inB_in hn35) dX10_mayHave_35 ?_
      refine V_if_le (tgt := 79) hX dX10_mayHave_36 (by decide) (fun h36 => ?_) (fun h36 => ?_)
      · rw [if_pos h36] at hr
        refine V_iinc hX dX10_mayHave_79 rfl (ii_1 _) (Nat.le_of_ble_eq_true rfl) rfl ?_
        refine V_goto (tgt := 25) hX dX10_mayHave_82 (by decide) ?_
        refine V_mask [true, true, true, true] ?_
        exact ih _ _ _ _ hr
      · rw [if_neg h36] at hr
        refine V_aload_n hX dX10_mayHave_39 rfl rfl ?_
        refine G_RX10_68 hX dX10_mayHave_40 ?_
        refine V_iload_n hX dX10_mayHave_43 rfl rfl ?_
        obtain ⟨hn44, hr⟩ := ifn hr
        refine V_iald hX (Nat.le_of_ble_eq_true rfl) lay_51 (inB_in hn44) dX10_mayHave_44 ?_
        refine V_iload_n hX dX10_mayHave_45 rfl rfl ?_
        refine V_icmp_eq (tgt := 77) hX dX10_mayHave_46 (by decide) (fun h46 => ?_) (fun h46 => ?_)
        · rw [if_pos h46] at hr
          refine V_iconst hX dX10_mayHave_77 ic_0 ?_
          cases hr
          exact V_iret hX hE rfl dX10_mayHave_78
        · rw [if_neg h46] at hr
          refine V_aload_n hX dX10_mayHave_49 rfl rfl ?_
          refine G_RX10_65 hX dX10_mayHave_50 ?_
          refine V_iload_n hX dX10_mayHave_53 rfl rfl ?_
          obtain ⟨hn54, hr⟩ := ifn hr
          refine V_iald hX (Nat.le_of_ble_eq_true rfl) lay_50 (inB_in hn54) dX10_mayHave_54 ?_
          refine V_iload_n hX dX10_mayHave_55 rfl rfl ?_
          refine V_ishr hX dX10_mayHave_56 ?_
          refine V_iconst hX dX10_mayHave_57 ic_1 ?_
          refine V_iand hX dX10_mayHave_58 ?_
          refine V_iconst hX dX10_mayHave_59 ic_1 ?_
          refine V_icmp_ne (tgt := 79) hX dX10_mayHave_60 (by decide) (fun h60 => ?_) (fun h60 => ?_)
          · rw [if_neg h60] at hr
            refine V_iinc hX dX10_mayHave_79 rfl (ii_1 _) (Nat.le_of_ble_eq_true rfl) rfl ?_
            refine V_goto (tgt := 25) hX dX10_mayHave_82 (by decide) ?_
            refine V_mask [true, true, true, true] ?_
            exact ih _ _ _ _ hr
          · rw [if_pos h60] at hr
            refine V_aload_n hX dX10_mayHave_63 rfl rfl ?_
            refine V_aload_n hX dX10_mayHave_64 rfl rfl ?_
            refine G_RX10_68 hX dX10_mayHave_65 ?_
            refine V_iload_n hX dX10_mayHave_68 rfl rfl ?_
            obtain ⟨hn69, hr⟩ := ifn hr
            refine V_iald hX (Nat.le_of_ble_eq_true rfl) lay_51 (inB_in hn69) dX10_mayHave_69 ?_
            refine V_iload_n hX dX10_mayHave_70 rfl rfl ?_
            obtain ⟨q1, hq1, hr⟩ := bnd hr
            refine C_RX10_273 hX (c_X10_doTouch (by omega) hq1) (Nat.le_of_ble_eq_true rfl) dX10_mayHave_71 ?_
            refine V_if_ne (tgt := 79) hX dX10_mayHave_74 (by decide) (fun h74 => ?_) (fun h74 => ?_)
            · rw [if_neg h74] at hr
              refine V_iinc hX dX10_mayHave_79 rfl (ii_1 _) (Nat.le_of_ble_eq_true rfl) rfl ?_
              refine V_goto (tgt := 25) hX dX10_mayHave_82 (by decide) ?_
              refine V_mask [true, true, true, true] ?_
              exact ih _ _ _ _ hr
            · rw [if_pos h74] at hr
              refine V_iconst hX dX10_mayHave_77 ic_0 ?_
              cases hr
              exact V_iret hX hE rfl dX10_mayHave_78
set_option maxRecDepth 100000 in
set_option maxHeartbeats 4000000 in
theorem c_X10_mayHave {d : Nat} (hd9 : 3 ≤ d) {p0 : Int32} {p1 : Int32} {w : Wd} {r : (Int32 × Wd)} (hr : f_X10_mayHave p0 p1 w = some r) : Con d yX10_mayHave cX10_mayHave 4 (some .boolean) [.ref 33, .int p0, .int p1] w (some (.int r.1)) r.2 := by
  refine Con_of (by decide) (Nat.le_of_ble_eq_true rfl) (fun X hX hE => ?_)
  have hX : bOk cX10_mayHave 4 RX10 d X := hX
  show bV X 0 [some (.ref 33), some (.int p0), some (.int p1), none] [] w
  obtain ⟨d, rfl⟩ : ∃ e, d = e + 1 := ⟨d - 1, by omega⟩
  unfold f_X10_mayHave at hr
  refine V_aload_n hX dX10_mayHave_0 rfl rfl ?_
  refine V_iload_n hX dX10_mayHave_1 rfl rfl ?_
  obtain ⟨q1, hq1, hr⟩ := bnd hr
  refine C_RX10_205 hX (c_X10_isBundle (by omega) hq1) (Nat.le_of_ble_eq_true rfl) dX10_mayHave_2 ?_
  refine V_if_eq (tgt := 21) hX dX10_mayHave_5 (by decide) (fun h5 => ?_) (fun h5 => ?_)
  · rw [if_pos h5] at hr
    refine V_iconst hX dX10_mayHave_21 ic_0 ?_
    cases hr
    exact V_iret hX hE rfl dX10_mayHave_22
  · rw [if_neg h5] at hr
    refine V_aload_n hX dX10_mayHave_8 rfl rfl ?_
    refine V_iload_n hX dX10_mayHave_9 rfl rfl ?_
    refine V_iload_n hX dX10_mayHave_10 rfl rfl ?_
    obtain ⟨q2, hq2, hr⟩ := bnd hr
    refine C_RX10_270 hX (c_X10_offOf (by omega) hq2) (Nat.le_of_ble_eq_true rfl) dX10_mayHave_11 ?_
    refine V_aload_n hX dX10_mayHave_14 rfl rfl ?_
    refine G_RX10_40 hX dX10_mayHave_15 ?_
    refine V_icmp_le (tgt := 23) hX dX10_mayHave_18 (by decide) (fun h18 => ?_) (fun h18 => ?_)
    · rw [if_pos h18] at hr
      refine V_iconst hX dX10_mayHave_23 ic_0 ?_
      refine V_istore_n hX dX10_mayHave_24 rfl (Nat.le_of_ble_eq_true rfl) rfl ?_
      refine V_mask [true, true, true, true] ?_
      exact v_X10_mayHave_25 hd9 hX hE _ _ _ _ _ hr
    · rw [if_neg h18] at hr
      refine V_iconst hX dX10_mayHave_21 ic_0 ?_
      cases hr
      exact V_iret hX hE rfl dX10_mayHave_22
def f_X10_giveOne_75 : Nat → Int32 → Wd → Option Wd
  | 0, _, _ => none
  | n + 1, x2, w => if 5 ≤ x2 then
        (some w)
      else
        (if inB x2 5 then (if (w.1 49 (ix x2)) = 0 then
          (if inB x2 5 then (f_X10_giveOne_75 n (x2 + 1) (wS w 52 (ix x2) (-1))) else none)
        else
          (if inB x2 6 then (if inB x2 5 then (f_X10_giveOne_75 n (x2 + 1) (wS w 52 (ix x2) (w.1 51 (ix x2)))) else none) else none)) else none)
def f_X10_giveOne_68 (x1 : Int32) (w : Wd) : Option Wd := f_X10_giveOne_75 fu 0 (wS w 33 33 x1)
def f_X10_giveOne_4 : Nat → Int32 → Int32 → Wd → Option Wd
  | 0, _, _, _ => none
  | n + 1, x1, x2, w => if 5 ≤ x2 then
        (if ((wS w 33 32 ((w.1 33 32) + 1)).1 33 33) = (-1) then
          (f_X10_giveOne_68 x1 (wS w 33 32 ((w.1 33 32) + 1)))
        else
          (if ((wS w 33 32 ((w.1 33 32) + 1)).1 33 33) ≤ x1 then
            (some (wS w 33 32 ((w.1 33 32) + 1)))
          else
            (f_X10_giveOne_68 x1 (wS w 33 32 ((w.1 33 32) + 1)))))
      else
        (if inB x2 5 then (if (w.1 49 (ix x2)) = 0 then
          (f_X10_giveOne_4 n (x1 + 0) (x2 + 1) w)
        else
          (if inB x2 6 then (Option.bind (f_X10_offOf x2 (w.1 51 (ix x2)) w) fun q1 =>
          f_X10_giveOne_4 n (x1 + q1.1) (x2 + 1) q1.2) else none)) else none)
def f_X10_giveOne (w : Wd) : Option Wd := f_X10_giveOne_4 fu 0 0 w
set_option maxRecDepth 100000 in
set_option maxHeartbeats 4000000 in
theorem v_X10_giveOne_75 {d : Nat} (hd9 : 2 ≤ d) {X : bX} (hX : bOk cX10_giveOne 3 RX10 d X) {r : Wd} (hE : bEnd none none r X) : ∀ (n : Nat) (x2 : Int32) (w : Wd), f_X10_giveOne_75 n x2 w = some r → bV X 75 [some (.ref 33), none, some (.int x2)] [] w := by
  obtain ⟨d, rfl⟩ : ∃ e, d = e + 1 := ⟨d - 1, by omega⟩
  intro n
  induction n with
  | zero => intro x2 w hr; exact absurd hr (by simp [f_X10_giveOne_75])
  | succ n ih =>
    intro x2 w hr
    rw [f_X10_giveOne_75] at hr
    refine V_iload_n hX dX10_giveOne_75 rfl rfl ?_
    refine V_iconst hX dX10_giveOne_76 ic_5 ?_
    refine V_icmp_ge (tgt := 111) hX dX10_giveOne_77 (by decide) (fun h77 => ?_) (fun h77 => ?_)
    · rw [if_pos h77] at hr
      cases hr
      exact V_vret hX hE dX10_giveOne_111
    · rw [if_neg h77] at hr
      refine V_aload_n hX dX10_giveOne_80 rfl rfl ?_
      refine G_RX10_71 hX dX10_giveOne_81 ?_
      refine V_iload_n hX dX10_giveOne_84 rfl rfl ?_
      refine V_aload_n hX dX10_giveOne_85 rfl rfl ?_
      refine G_RX10_62 hX dX10_giveOne_86 ?_
      refine V_iload_n hX dX10_giveOne_89 rfl rfl ?_
      obtain ⟨hn90, hr⟩ := ifn hr
      refine V_iald hX (Nat.le_of_ble_eq_true rfl) lay_49 (inB_in hn90) dX10_giveOne_90 ?_
      refine V_if_ne (tgt := 98) hX dX10_giveOne_91 (by decide) (fun h91 => ?_) (fun h91 => ?_)
      · rw [if_neg h91] at hr
        refine V_aload_n hX dX10_giveOne_98 rfl rfl ?_
        refine G_RX10_68 hX dX10_giveOne_99 ?_
        refine V_iload_n hX dX10_giveOne_102 rfl rfl ?_
        obtain ⟨hn103, hr⟩ := ifn hr
        refine V_iald hX (Nat.le_of_ble_eq_true rfl) lay_51 (inB_in hn103) dX10_giveOne_103 ?_
        obtain ⟨hn104, hr⟩ := ifn hr
        refine V_iast hX (Nat.le_of_ble_eq_true rfl) lay_52 (inB_in hn104) dX10_giveOne_104 ?_
        refine V_iinc hX dX10_giveOne_105 rfl (ii_1 _) (Nat.le_of_ble_eq_true rfl) rfl ?_
        refine V_goto (tgt := 75) hX dX10_giveOne_108 (by decide) ?_
        refine V_mask [true, false, true] ?_
        exact ih _ _ hr
      · rw [if_pos h91] at hr
        refine V_iconst hX dX10_giveOne_94 ic_m1 ?_
        refine V_goto (tgt := 104) hX dX10_giveOne_95 (by decide) ?_
        obtain ⟨hn104, hr⟩ := ifn hr
        refine V_iast hX (Nat.le_of_ble_eq_true rfl) lay_52 (inB_in hn104) dX10_giveOne_104 ?_
        refine V_iinc hX dX10_giveOne_105 rfl (ii_1 _) (Nat.le_of_ble_eq_true rfl) rfl ?_
        refine V_goto (tgt := 75) hX dX10_giveOne_108 (by decide) ?_
        refine V_mask [true, false, true] ?_
        exact ih _ _ hr
set_option maxRecDepth 100000 in
set_option maxHeartbeats 4000000 in
theorem v_X10_giveOne_68 {d : Nat} (hd9 : 2 ≤ d) {X : bX} (hX : bOk cX10_giveOne 3 RX10 d X) {r : Wd} (hE : bEnd none none r X) : ∀ (x1 : Int32) (w : Wd), f_X10_giveOne_68 x1 w = some r → bV X 68 [some (.ref 33), some (.int x1), none] [] w := by
  intro x1 w hr
  obtain ⟨d, rfl⟩ : ∃ e, d = e + 1 := ⟨d - 1, by omega⟩
  unfold f_X10_giveOne_68 at hr
  refine V_aload_n hX dX10_giveOne_68 rfl rfl ?_
  refine V_iload_n hX dX10_giveOne_69 rfl rfl ?_
  refine P_RX10_279 hX dX10_giveOne_70 ?_
  refine V_iconst hX dX10_giveOne_73 ic_0 ?_
  refine V_istore_n hX dX10_giveOne_74 rfl (Nat.le_of_ble_eq_true rfl) rfl ?_
  refine V_mask [true, false, true] ?_
  exact v_X10_giveOne_75 hd9 hX hE _ _ _ hr
set_option maxRecDepth 100000 in
set_option maxHeartbeats 4000000 in
theorem v_X10_giveOne_4 {d : Nat} (hd9 : 2 ≤ d) {X : bX} (hX : bOk cX10_giveOne 3 RX10 d X) {r : Wd} (hE : bEnd none none r X) : ∀ (n : Nat) (x1 : Int32) (x2 : Int32) (w : Wd), f_X10_giveOne_4 n x1 x2 w = some r → bV X 4 [some (.ref 33), some (.int x1), some (.int x2)] [] w := by
  obtain ⟨d, rfl⟩ : ∃ e, d = e + 1 := ⟨d - 1, by omega⟩
  intro n
  induction n with
  | zero => intro x1 x2 w hr; exact absurd hr (by simp [f_X10_giveOne_4])
  | succ n ih =>
    intro x1 x2 w hr
    rw [f_X10_giveOne_4] at hr
    refine V_iload_n hX dX10_giveOne_4 rfl rfl ?_
    refine V_iconst hX dX10_giveOne_5 ic_5 ?_
    refine V_icmp_ge (tgt := 42) hX dX10_giveOne_6 (by decide) (fun h6 => ?_) (fun h6 => ?_)
    · rw [if_pos h6] at hr
      refine V_aload_n hX dX10_giveOne_42 rfl rfl ?_
      refine V_dup hX dX10_giveOne_43 rfl ?_
      refine G_RX10_276 hX dX10_giveOne_44 ?_
      refine V_iconst hX dX10_giveOne_47 ic_1 ?_
      refine V_iadd hX dX10_giveOne_48 ?_
      refine P_RX10_276 hX dX10_giveOne_49 ?_
      refine V_aload_n hX dX10_giveOne_52 rfl rfl ?_
      refine G_RX10_279 hX dX10_giveOne_53 ?_
      refine V_iconst hX dX10_giveOne_56 ic_m1 ?_
      refine V_icmp_eq (tgt := 68) hX dX10_giveOne_57 (by decide) (fun h57 => ?_) (fun h57 => ?_)
      · rw [if_pos h57] at hr
        refine V_mask [true, true, false] ?_
        exact v_X10_giveOne_68 hd9 hX hE _ _ hr
      · rw [if_neg h57] at hr
        refine V_iload_n hX dX10_giveOne_60 rfl rfl ?_
        refine V_aload_n hX dX10_giveOne_61 rfl rfl ?_
        refine G_RX10_279 hX dX10_giveOne_62 ?_
        refine V_icmp_ge (tgt := 111) hX dX10_giveOne_65 (by decide) (fun h65 => ?_) (fun h65 => ?_)
        · rw [if_pos h65] at hr
          cases hr
          exact V_vret hX hE dX10_giveOne_111
        · rw [if_neg h65] at hr
          refine V_mask [true, true, false] ?_
          exact v_X10_giveOne_68 hd9 hX hE _ _ hr
    · rw [if_neg h6] at hr
      refine V_iload_n hX dX10_giveOne_9 rfl rfl ?_
      refine V_aload_n hX dX10_giveOne_10 rfl rfl ?_
      refine G_RX10_62 hX dX10_giveOne_11 ?_
      refine V_iload_n hX dX10_giveOne_14 rfl rfl ?_
      obtain ⟨hn15, hr⟩ := ifn hr
      refine V_iald hX (Nat.le_of_ble_eq_true rfl) lay_49 (inB_in hn15) dX10_giveOne_15 ?_
      refine V_if_ne (tgt := 23) hX dX10_giveOne_16 (by decide) (fun h16 => ?_) (fun h16 => ?_)
      · rw [if_neg h16] at hr
        refine V_aload_n hX dX10_giveOne_23 rfl rfl ?_
        refine V_iload_n hX dX10_giveOne_24 rfl rfl ?_
        refine V_aload_n hX dX10_giveOne_25 rfl rfl ?_
        refine G_RX10_68 hX dX10_giveOne_26 ?_
        refine V_iload_n hX dX10_giveOne_29 rfl rfl ?_
        obtain ⟨hn30, hr⟩ := ifn hr
        refine V_iald hX (Nat.le_of_ble_eq_true rfl) lay_51 (inB_in hn30) dX10_giveOne_30 ?_
        obtain ⟨q1, hq1, hr⟩ := bnd hr
        refine C_RX10_270 hX (c_X10_offOf (by omega) hq1) (Nat.le_of_ble_eq_true rfl) dX10_giveOne_31 ?_
        refine V_iadd hX dX10_giveOne_34 ?_
        refine V_istore_n hX dX10_giveOne_35 rfl (Nat.le_of_ble_eq_true rfl) rfl ?_
        refine V_iinc hX dX10_giveOne_36 rfl (ii_1 _) (Nat.le_of_ble_eq_true rfl) rfl ?_
        refine V_goto (tgt := 4) hX dX10_giveOne_39 (by decide) ?_
        refine V_mask [true, true, true] ?_
        exact ih _ _ _ hr
      · rw [if_pos h16] at hr
        refine V_iconst hX dX10_giveOne_19 ic_0 ?_
        refine V_goto (tgt := 34) hX dX10_giveOne_20 (by decide) ?_
        refine V_iadd hX dX10_giveOne_34 ?_
        refine V_istore_n hX dX10_giveOne_35 rfl (Nat.le_of_ble_eq_true rfl) rfl ?_
        refine V_iinc hX dX10_giveOne_36 rfl (ii_1 _) (Nat.le_of_ble_eq_true rfl) rfl ?_
        refine V_goto (tgt := 4) hX dX10_giveOne_39 (by decide) ?_
        refine V_mask [true, true, true] ?_
        exact ih _ _ _ hr
set_option maxRecDepth 100000 in
set_option maxHeartbeats 4000000 in
theorem c_X10_giveOne {d : Nat} (hd9 : 2 ≤ d) {w : Wd} {r : Wd} (hr : f_X10_giveOne w = some r) : Con d yX10_giveOne cX10_giveOne 3 none [.ref 33] w none r := by
  refine Con_of (by decide) (Nat.le_of_ble_eq_true rfl) (fun X hX hE => ?_)
  have hX : bOk cX10_giveOne 3 RX10 d X := hX
  show bV X 0 [some (.ref 33), none, none] [] w
  obtain ⟨d, rfl⟩ : ∃ e, d = e + 1 := ⟨d - 1, by omega⟩
  unfold f_X10_giveOne at hr
  refine V_iconst hX dX10_giveOne_0 ic_0 ?_
  refine V_istore_n hX dX10_giveOne_1 rfl (Nat.le_of_ble_eq_true rfl) rfl ?_
  refine V_iconst hX dX10_giveOne_2 ic_0 ?_
  refine V_istore_n hX dX10_giveOne_3 rfl (Nat.le_of_ble_eq_true rfl) rfl ?_
  refine V_mask [true, true, true] ?_
  exact v_X10_giveOne_4 hd9 hX hE _ _ _ _ hr
def f_X10_giveAll_124 (k19 : Int32 → Wd → Option Wd) (x1 : Int32) (w : Wd) : Option Wd := if inB (x1 + 1) 6 then (k19 (x1 + 1) (wS w 51 (ix (x1 + 1)) (-1))) else none
def f_X10_giveAll_90 (k19 : Int32 → Wd → Option Wd) (s0 : Int32) (x1 : Int32) (w : Wd) : Option Wd := if s0 = 0 then
      (if inB x1 5 then (if (w.1 49 (ix x1)) = 0 then
        (f_X10_giveAll_124 k19 x1 w)
      else
        (if inB x1 6 then (Option.bind (f_X10_mayHave x1 (w.1 51 (ix x1)) w) fun q1 =>
        if q1.1 = 0 then
          (k19 x1 q1.2)
        else
          (f_X10_giveAll_124 k19 x1 q1.2)) else none)) else none)
    else
      (k19 (x1 + (-1)) w)
def f_X10_giveAll_19 : Nat → Int32 → Wd → Option Wd
  | 0, _, _ => none
  | n + 1, x1, w => if x1 < 0 then
        (some w)
      else
        (if x1 = 5 then
          (Option.bind (f_X10_giveOne w) fun q1 =>
          f_X10_giveAll_19 n (x1 + (-1)) q1)
        else
          (if inB x1 6 then (if inB x1 6 then (if inB x1 5 then (if ((wS w 51 (ix x1) ((w.1 51 (ix x1)) + 1)).1 49 (ix x1)) = 0 then
            (if inB x1 6 then (if ((wS w 51 (ix x1) ((w.1 51 (ix x1)) + 1)).1 51 (ix x1)) ≤ 0 then
              (f_X10_giveAll_90 (f_X10_giveAll_19 n) 0 x1 (wS w 51 (ix x1) ((w.1 51 (ix x1)) + 1)))
            else
              (f_X10_giveAll_90 (f_X10_giveAll_19 n) 1 x1 (wS w 51 (ix x1) ((w.1 51 (ix x1)) + 1)))) else none)
          else
            (if inB x1 6 then (if ((wS w 51 (ix x1) ((w.1 51 (ix x1)) + 1)).1 51 (ix x1)) ≤ 7 then
              (f_X10_giveAll_90 (f_X10_giveAll_19 n) 0 x1 (wS w 51 (ix x1) ((w.1 51 (ix x1)) + 1)))
            else
              (f_X10_giveAll_90 (f_X10_giveAll_19 n) 1 x1 (wS w 51 (ix x1) ((w.1 51 (ix x1)) + 1)))) else none)) else none) else none) else none))
def f_X10_giveAll (w : Wd) : Option Wd := if inB 0 6 then (f_X10_giveAll_19 fu 0 (wS (wS (wS w 33 32 0) 33 33 (-1)) 51 (ix 0) (-1))) else none
set_option maxRecDepth 100000 in
set_option maxHeartbeats 4000000 in
theorem v_X10_giveAll_124 {d : Nat} (hd9 : 4 ≤ d) {X : bX} (hX : bOk cX10_giveAll 3 RX10 d X) {r : Wd} (hE : bEnd none none r X) {k19 : Int32 → Wd → Option Wd} (hk19 : ∀ (x1 : Int32) (w : Wd), k19 x1 w = some r → bV X 19 [some (.ref 33), some (.int x1), none] [] w) : ∀ (x1 : Int32) (w : Wd), f_X10_giveAll_124 k19 x1 w = some r → bV X 124 [some (.ref 33), some (.int x1), none] [] w := by
  intro x1 w hr
  obtain ⟨d, rfl⟩ : ∃ e, d = e + 1 := ⟨d - 1, by omega⟩
  unfold f_X10_giveAll_124 at hr
  refine V_iinc hX dX10_giveAll_124 rfl (ii_1 _) (Nat.le_of_ble_eq_true rfl) rfl ?_
  refine V_aload_n hX dX10_giveAll_127 rfl rfl ?_
  refine G_RX10_68 hX dX10_giveAll_128 ?_
  refine V_iload_n hX dX10_giveAll_131 rfl rfl ?_
  refine V_iconst hX dX10_giveAll_132 ic_m1 ?_
  obtain ⟨hn133, hr⟩ := ifn hr
  refine V_iast hX (Nat.le_of_ble_eq_true rfl) lay_51 (inB_in hn133) dX10_giveAll_133 ?_
  refine V_goto (tgt := 19) hX dX10_giveAll_134 (by decide) ?_
  refine V_mask [true, true, false] ?_
  exact hk19 _ _ hr
set_option maxRecDepth 100000 in
set_option maxHeartbeats 4000000 in
theorem v_X10_giveAll_90 {d : Nat} (hd9 : 4 ≤ d) {X : bX} (hX : bOk cX10_giveAll 3 RX10 d X) {r : Wd} (hE : bEnd none none r X) {k19 : Int32 → Wd → Option Wd} (hk19 : ∀ (x1 : Int32) (w : Wd), k19 x1 w = some r → bV X 19 [some (.ref 33), some (.int x1), none] [] w) : ∀ (s0 : Int32) (x1 : Int32) (w : Wd), f_X10_giveAll_90 k19 s0 x1 w = some r → bV X 90 [some (.ref 33), some (.int x1), none] [.int s0] w := by
  intro s0 x1 w hr
  obtain ⟨d, rfl⟩ : ∃ e, d = e + 1 := ⟨d - 1, by omega⟩
  unfold f_X10_giveAll_90 at hr
  refine V_istore_n hX dX10_giveAll_90 rfl (Nat.le_of_ble_eq_true rfl) rfl ?_
  refine V_iload_n hX dX10_giveAll_91 rfl rfl ?_
  refine V_if_eq (tgt := 101) hX dX10_giveAll_92 (by decide) (fun h92 => ?_) (fun h92 => ?_)
  · rw [if_pos h92] at hr
    refine V_aload_n hX dX10_giveAll_101 rfl rfl ?_
    refine G_RX10_62 hX dX10_giveAll_102 ?_
    refine V_iload_n hX dX10_giveAll_105 rfl rfl ?_
    obtain ⟨hn106, hr⟩ := ifn hr
    refine V_iald hX (Nat.le_of_ble_eq_true rfl) lay_49 (inB_in hn106) dX10_giveAll_106 ?_
    refine V_if_eq (tgt := 124) hX dX10_giveAll_107 (by decide) (fun h107 => ?_) (fun h107 => ?_)
    · rw [if_pos h107] at hr
      refine V_mask [true, true, false] ?_
      exact v_X10_giveAll_124 hd9 hX hE hk19 _ _ hr
    · rw [if_neg h107] at hr
      refine V_aload_n hX dX10_giveAll_110 rfl rfl ?_
      refine V_iload_n hX dX10_giveAll_111 rfl rfl ?_
      refine V_aload_n hX dX10_giveAll_112 rfl rfl ?_
      refine G_RX10_68 hX dX10_giveAll_113 ?_
      refine V_iload_n hX dX10_giveAll_116 rfl rfl ?_
      obtain ⟨hn117, hr⟩ := ifn hr
      refine V_iald hX (Nat.le_of_ble_eq_true rfl) lay_51 (inB_in hn117) dX10_giveAll_117 ?_
      obtain ⟨q1, hq1, hr⟩ := bnd hr
      refine C_RX10_285 hX (c_X10_mayHave (by omega) hq1) (Nat.le_of_ble_eq_true rfl) dX10_giveAll_118 ?_
      refine V_if_eq (tgt := 134) hX dX10_giveAll_121 (by decide) (fun h121 => ?_) (fun h121 => ?_)
      · rw [if_pos h121] at hr
        refine V_goto (tgt := 19) hX dX10_giveAll_134 (by decide) ?_
        refine V_mask [true, true, false] ?_
        exact hk19 _ _ hr
      · rw [if_neg h121] at hr
        refine V_mask [true, true, false] ?_
        exact v_X10_giveAll_124 hd9 hX hE hk19 _ _ hr
  · rw [if_neg h92] at hr
    refine V_iinc hX dX10_giveAll_95 rfl (ii_m1 _) (Nat.le_of_ble_eq_true rfl) rfl ?_
    refine V_goto (tgt := 134) hX dX10_giveAll_98 (by decide) ?_
    refine V_goto (tgt := 19) hX dX10_giveAll_134 (by decide) ?_
    refine V_mask [true, true, false] ?_
    exact hk19 _ _ hr
set_option maxRecDepth 100000 in
set_option maxHeartbeats 4000000 in
theorem v_X10_giveAll_19 {d : Nat} (hd9 : 4 ≤ d) {X : bX} (hX : bOk cX10_giveAll 3 RX10 d X) {r : Wd} (hE : bEnd none none r X) : ∀ (n : Nat) (x1 : Int32) (w : Wd), f_X10_giveAll_19 n x1 w = some r → bV X 19 [some (.ref 33), some (.int x1), none] [] w := by
  obtain ⟨d, rfl⟩ : ∃ e, d = e + 1 := ⟨d - 1, by omega⟩
  intro n
  induction n with
  | zero => intro x1 w hr; exact absurd hr (by simp [f_X10_giveAll_19])
  | succ n ih =>
    intro x1 w hr
    rw [f_X10_giveAll_19] at hr
    refine V_iload_n hX dX10_giveAll_19 rfl rfl ?_
    refine V_if_lt (tgt := 137) hX dX10_giveAll_20 (by decide) (fun h20 => ?_) (fun h20 => ?_)
    · rw [if_pos h20] at hr
      cases hr
      exact V_vret hX hE dX10_giveAll_137
    · rw [if_neg h20] at hr
      refine V_iload_n hX dX10_giveAll_23 rfl rfl ?_
      refine V_iconst hX dX10_giveAll_24 ic_5 ?_
      refine V_icmp_ne (tgt := 38) hX dX10_giveAll_25 (by decide) (fun h25 => ?_) (fun h25 => ?_)
      · rw [if_neg h25] at hr
        refine V_aload_n hX dX10_giveAll_38 rfl rfl ?_
        refine G_RX10_68 hX dX10_giveAll_39 ?_
        refine V_iload_n hX dX10_giveAll_42 rfl rfl ?_
        refine V_dup2 hX dX10_giveAll_43 rfl rfl ?_
        obtain ⟨hn44, hr⟩ := ifn hr
        refine V_iald hX (Nat.le_of_ble_eq_true rfl) lay_51 (inB_in hn44) dX10_giveAll_44 ?_
        refine V_iconst hX dX10_giveAll_45 ic_1 ?_
        refine V_iadd hX dX10_giveAll_46 ?_
        obtain ⟨hn47, hr⟩ := ifn hr
        refine V_iast hX (Nat.le_of_ble_eq_true rfl) lay_51 (inB_in hn47) dX10_giveAll_47 ?_
        refine V_aload_n hX dX10_giveAll_48 rfl rfl ?_
        refine G_RX10_62 hX dX10_giveAll_49 ?_
        refine V_iload_n hX dX10_giveAll_52 rfl rfl ?_
        obtain ⟨hn53, hr⟩ := ifn hr
        refine V_iald hX (Nat.le_of_ble_eq_true rfl) lay_49 (inB_in hn53) dX10_giveAll_53 ?_
        refine V_if_ne (tgt := 74) hX dX10_giveAll_54 (by decide) (fun h54 => ?_) (fun h54 => ?_)
        · rw [if_neg h54] at hr
          refine V_aload_n hX dX10_giveAll_74 rfl rfl ?_
          refine G_RX10_68 hX dX10_giveAll_75 ?_
          refine V_iload_n hX dX10_giveAll_78 rfl rfl ?_
          obtain ⟨hn79, hr⟩ := ifn hr
          refine V_iald hX (Nat.le_of_ble_eq_true rfl) lay_51 (inB_in hn79) dX10_giveAll_79 ?_
          refine V_bipush hX dX10_giveAll_80 bp_7 ?_
          refine V_icmp_le (tgt := 89) hX dX10_giveAll_82 (by decide) (fun h82 => ?_) (fun h82 => ?_)
          · rw [if_pos h82] at hr
            refine V_iconst hX dX10_giveAll_89 ic_0 ?_
            refine V_mask [true, true, false] ?_
            exact v_X10_giveAll_90 hd9 hX hE ih _ _ _ hr
          · rw [if_neg h82] at hr
            refine V_iconst hX dX10_giveAll_85 ic_1 ?_
            refine V_goto (tgt := 90) hX dX10_giveAll_86 (by decide) ?_
            refine V_mask [true, true, false] ?_
            exact v_X10_giveAll_90 hd9 hX hE ih _ _ _ hr
        · rw [if_pos h54] at hr
          refine V_aload_n hX dX10_giveAll_57 rfl rfl ?_
          refine G_RX10_68 hX dX10_giveAll_58 ?_
          refine V_iload_n hX dX10_giveAll_61 rfl rfl ?_
          obtain ⟨hn62, hr⟩ := ifn hr
          refine V_iald hX (Nat.le_of_ble_eq_true rfl) lay_51 (inB_in hn62) dX10_giveAll_62 ?_
          refine V_if_le (tgt := 70) hX dX10_giveAll_63 (by decide) (fun h63 => ?_) (fun h63 => ?_)
          · rw [if_pos h63] at hr
            refine V_iconst hX dX10_giveAll_70 ic_0 ?_
            refine V_goto (tgt := 90) hX dX10_giveAll_71 (by decide) ?_
            refine V_mask [true, true, false] ?_
            exact v_X10_giveAll_90 hd9 hX hE ih _ _ _ hr
          · rw [if_neg h63] at hr
            refine V_iconst hX dX10_giveAll_66 ic_1 ?_
            refine V_goto (tgt := 90) hX dX10_giveAll_67 (by decide) ?_
            refine V_mask [true, true, false] ?_
            exact v_X10_giveAll_90 hd9 hX hE ih _ _ _ hr
      · rw [if_pos h25] at hr
        refine V_aload_n hX dX10_giveAll_28 rfl rfl ?_
        obtain ⟨q1, hq1, hr⟩ := bnd hr
        refine C_RX10_282 hX (c_X10_giveOne (by omega) hq1) (Nat.le_of_ble_eq_true rfl) dX10_giveAll_29 ?_
        refine V_iinc hX dX10_giveAll_32 rfl (ii_m1 _) (Nat.le_of_ble_eq_true rfl) rfl ?_
        refine V_goto (tgt := 19) hX dX10_giveAll_35 (by decide) ?_
        refine V_mask [true, true, false] ?_
        exact ih _ _ hr
set_option maxRecDepth 100000 in
set_option maxHeartbeats 4000000 in
theorem c_X10_giveAll {d : Nat} (hd9 : 4 ≤ d) {w : Wd} {r : Wd} (hr : f_X10_giveAll w = some r) : Con d yX10_giveAll cX10_giveAll 3 none [.ref 33] w none r := by
  refine Con_of (by decide) (Nat.le_of_ble_eq_true rfl) (fun X hX hE => ?_)
  have hX : bOk cX10_giveAll 3 RX10 d X := hX
  show bV X 0 [some (.ref 33), none, none] [] w
  obtain ⟨d, rfl⟩ : ∃ e, d = e + 1 := ⟨d - 1, by omega⟩
  unfold f_X10_giveAll at hr
  refine V_aload_n hX dX10_giveAll_0 rfl rfl ?_
  refine V_iconst hX dX10_giveAll_1 ic_0 ?_
  refine P_RX10_276 hX dX10_giveAll_2 ?_
  refine V_aload_n hX dX10_giveAll_5 rfl rfl ?_
  refine V_iconst hX dX10_giveAll_6 ic_m1 ?_
  refine P_RX10_279 hX dX10_giveAll_7 ?_
  refine V_iconst hX dX10_giveAll_10 ic_0 ?_
  refine V_istore_n hX dX10_giveAll_11 rfl (Nat.le_of_ble_eq_true rfl) rfl ?_
  refine V_aload_n hX dX10_giveAll_12 rfl rfl ?_
  refine G_RX10_68 hX dX10_giveAll_13 ?_
  refine V_iconst hX dX10_giveAll_16 ic_0 ?_
  refine V_iconst hX dX10_giveAll_17 ic_m1 ?_
  obtain ⟨hn18, hr⟩ := ifn hr
  refine V_iast hX (Nat.le_of_ble_eq_true rfl) lay_51 (inB_in hn18) dX10_giveAll_18 ?_
  refine V_mask [true, true, false] ?_
  exact v_X10_giveAll_19 hd9 hX hE _ _ _ hr
def f_X10_given (p0 : Int32) (w : Wd) : Option (Int32 × Wd) := Option.bind (f_X10_in p0 (-2) 4 w) fun q1 =>
    if q1.1 = 0 then
      (some ((-3), q1.2))
    else
      (Option.bind (f_X10_giveAll q1.2) fun q2 =>
      if p0 = (-1) then
        (some ((q2.1 33 32), q2))
      else
        (if (q2.1 33 33) = (-1) then
          (some ((-1), q2))
        else
          (if p0 = (-2) then
            (some ((q2.1 33 33), q2))
          else
            (if inB p0 5 then (some ((q2.1 52 (ix p0)), q2)) else none))))
set_option maxRecDepth 100000 in
set_option maxHeartbeats 4000000 in
theorem c_X10_given {d : Nat} (hd9 : 5 ≤ d) {p0 : Int32} {w : Wd} {r : (Int32 × Wd)} (hr : f_X10_given p0 w = some r) : Con d yX10_given cX10_given 2 (some .int) [.ref 33, .int p0] w (some (.int r.1)) r.2 := by
  refine Con_of (by decide) (Nat.le_of_ble_eq_true rfl) (fun X hX hE => ?_)
  have hX : bOk cX10_given 2 RX10 d X := hX
  show bV X 0 [some (.ref 33), some (.int p0)] [] w
  obtain ⟨d, rfl⟩ : ∃ e, d = e + 1 := ⟨d - 1, by omega⟩
  unfold f_X10_given at hr
  refine V_iload_n hX dX10_given_0 rfl rfl ?_
  refine V_bipush hX dX10_given_1 bp_m2 ?_
  refine V_iconst hX dX10_given_3 ic_4 ?_
  obtain ⟨q1, hq1, hr⟩ := bnd hr
  refine C_RX10_86 hX (c_X10_in (by omega) hq1) (Nat.le_of_ble_eq_true rfl) dX10_given_4 ?_
  refine V_if_ne (tgt := 13) hX dX10_given_7 (by decide) (fun h7 => ?_) (fun h7 => ?_)
  · rw [if_neg h7] at hr
    refine V_aload_n hX dX10_given_13 rfl rfl ?_
    obtain ⟨q2, hq2, hr⟩ := bnd hr
    refine C_RX10_288 hX (c_X10_giveAll (by omega) hq2) (Nat.le_of_ble_eq_true rfl) dX10_given_14 ?_
    refine V_iload_n hX dX10_given_17 rfl rfl ?_
    refine V_iconst hX dX10_given_18 ic_m1 ?_
    refine V_icmp_ne (tgt := 29) hX dX10_given_19 (by decide) (fun h19 => ?_) (fun h19 => ?_)
    · rw [if_neg h19] at hr
      refine V_aload_n hX dX10_given_29 rfl rfl ?_
      refine G_RX10_279 hX dX10_given_30 ?_
      refine V_iconst hX dX10_given_33 ic_m1 ?_
      refine V_icmp_ne (tgt := 41) hX dX10_given_34 (by decide) (fun h34 => ?_) (fun h34 => ?_)
      · rw [if_neg h34] at hr
        refine V_iload_n hX dX10_given_41 rfl rfl ?_
        refine V_bipush hX dX10_given_42 bp_m2 ?_
        refine V_icmp_ne (tgt := 54) hX dX10_given_44 (by decide) (fun h44 => ?_) (fun h44 => ?_)
        · rw [if_neg h44] at hr
          refine V_aload_n hX dX10_given_54 rfl rfl ?_
          refine G_RX10_71 hX dX10_given_55 ?_
          refine V_iload_n hX dX10_given_58 rfl rfl ?_
          obtain ⟨hn59, hr⟩ := ifn hr
          refine V_iald hX (Nat.le_of_ble_eq_true rfl) lay_52 (inB_in hn59) dX10_given_59 ?_
          cases hr
          exact V_iret hX hE rfl dX10_given_60
        · rw [if_pos h44] at hr
          refine V_aload_n hX dX10_given_47 rfl rfl ?_
          refine G_RX10_279 hX dX10_given_48 ?_
          refine V_goto (tgt := 60) hX dX10_given_51 (by decide) ?_
          cases hr
          exact V_iret hX hE rfl dX10_given_60
      · rw [if_pos h34] at hr
        refine V_iconst hX dX10_given_37 ic_m1 ?_
        refine V_goto (tgt := 60) hX dX10_given_38 (by decide) ?_
        cases hr
        exact V_iret hX hE rfl dX10_given_60
    · rw [if_pos h19] at hr
      refine V_aload_n hX dX10_given_22 rfl rfl ?_
      refine G_RX10_276 hX dX10_given_23 ?_
      refine V_goto (tgt := 60) hX dX10_given_26 (by decide) ?_
      cases hr
      exact V_iret hX hE rfl dX10_given_60
  · rw [if_pos h7] at hr
    refine V_bipush hX dX10_given_10 bp_m3 ?_
    cases hr
    exact V_iret hX hE rfl dX10_given_12
def f_X10_holder (p0 : Int32) (p1 : Int32) (w : Wd) : Option (Int32 × Wd) := Option.bind (f_X10_in p0 0 29 w) fun q1 =>
    if q1.1 = 0 then
      (some ((-3), q1.2))
    else
      (Option.bind (f_X10_in p1 (-1) 9 q1.2) fun q2 =>
      if q2.1 = 0 then
        (some ((-3), q2.2))
      else
        (if inB p0 30 then (if inB p0 30 then (some ((q2.2.1 53 (ix p0)), (wS q2.2 53 (ix p0) p1))) else none) else none))
set_option maxRecDepth 100000 in
set_option maxHeartbeats 4000000 in
theorem c_X10_holder {d : Nat} (hd9 : 1 ≤ d) {p0 : Int32} {p1 : Int32} {w : Wd} {r : (Int32 × Wd)} (hr : f_X10_holder p0 p1 w = some r) : Con d yX10_holder cX10_holder 4 (some .int) [.ref 33, .int p0, .int p1] w (some (.int r.1)) r.2 := by
  refine Con_of (by decide) (Nat.le_of_ble_eq_true rfl) (fun X hX hE => ?_)
  have hX : bOk cX10_holder 4 RX10 d X := hX
  show bV X 0 [some (.ref 33), some (.int p0), some (.int p1), none] [] w
  obtain ⟨d, rfl⟩ : ∃ e, d = e + 1 := ⟨d - 1, by omega⟩
  unfold f_X10_holder at hr
  refine V_iload_n hX dX10_holder_0 rfl rfl ?_
  refine V_iconst hX dX10_holder_1 ic_0 ?_
  refine V_bipush hX dX10_holder_2 bp_29 ?_
  obtain ⟨q1, hq1, hr⟩ := bnd hr
  refine C_RX10_86 hX (c_X10_in (by omega) hq1) (Nat.le_of_ble_eq_true rfl) dX10_holder_4 ?_
  refine V_if_eq (tgt := 20) hX dX10_holder_7 (by decide) (fun h7 => ?_) (fun h7 => ?_)
  · rw [if_pos h7] at hr
    refine V_bipush hX dX10_holder_20 bp_m3 ?_
    cases hr
    exact V_iret hX hE rfl dX10_holder_22
  · rw [if_neg h7] at hr
    refine V_iload_n hX dX10_holder_10 rfl rfl ?_
    refine V_iconst hX dX10_holder_11 ic_m1 ?_
    refine V_bipush hX dX10_holder_12 bp_9 ?_
    obtain ⟨q2, hq2, hr⟩ := bnd hr
    refine C_RX10_86 hX (c_X10_in (by omega) hq2) (Nat.le_of_ble_eq_true rfl) dX10_holder_14 ?_
    refine V_if_ne (tgt := 23) hX dX10_holder_17 (by decide) (fun h17 => ?_) (fun h17 => ?_)
    · rw [if_neg h17] at hr
      refine V_aload_n hX dX10_holder_23 rfl rfl ?_
      refine G_RX10_74 hX dX10_holder_24 ?_
      refine V_iload_n hX dX10_holder_27 rfl rfl ?_
      obtain ⟨hn28, hr⟩ := ifn hr
      refine V_iald hX (Nat.le_of_ble_eq_true rfl) lay_53 (inB_in hn28) dX10_holder_28 ?_
      refine V_istore_n hX dX10_holder_29 rfl (Nat.le_of_ble_eq_true rfl) rfl ?_
      refine V_aload_n hX dX10_holder_30 rfl rfl ?_
      refine G_RX10_74 hX dX10_holder_31 ?_
      refine V_iload_n hX dX10_holder_34 rfl rfl ?_
      refine V_iload_n hX dX10_holder_35 rfl rfl ?_
      obtain ⟨hn36, hr⟩ := ifn hr
      refine V_iast hX (Nat.le_of_ble_eq_true rfl) lay_53 (inB_in hn36) dX10_holder_36 ?_
      refine V_iload_n hX dX10_holder_37 rfl rfl ?_
      cases hr
      exact V_iret hX hE rfl dX10_holder_38
    · rw [if_pos h17] at hr
      refine V_bipush hX dX10_holder_20 bp_m3 ?_
      cases hr
      exact V_iret hX hE rfl dX10_holder_22
def f_X10_roundOf_76 (k4 : Int32 → Int32 → Wd → Option (Int32 × Wd)) (k12 : Int32 → Int32 → Int32 → Wd → Option (Int32 × Wd)) (k23 : Int32 → Int32 → Int32 → Int32 → Wd → Option (Int32 × Wd)) (s0 : Int32) (x1 : Int32) (x3 : Int32) (x4 : Int32) (w : Wd) : Option (Int32 × Wd) := k23 x1 s0 x3 (x4 + x1) w
def f_X10_roundOf_75 (k4 : Int32 → Int32 → Wd → Option (Int32 × Wd)) (k12 : Int32 → Int32 → Int32 → Wd → Option (Int32 × Wd)) (k23 : Int32 → Int32 → Int32 → Int32 → Wd → Option (Int32 × Wd)) (x1 : Int32) (x3 : Int32) (x4 : Int32) (w : Wd) : Option (Int32 × Wd) := f_X10_roundOf_76 k4 k12 k23 0 x1 x3 x4 w
def f_X10_roundOf_71 (k4 : Int32 → Int32 → Wd → Option (Int32 × Wd)) (k12 : Int32 → Int32 → Int32 → Wd → Option (Int32 × Wd)) (k23 : Int32 → Int32 → Int32 → Int32 → Wd → Option (Int32 × Wd)) (x1 : Int32) (x3 : Int32) (x4 : Int32) (w : Wd) : Option (Int32 × Wd) := f_X10_roundOf_76 k4 k12 k23 1 x1 x3 x4 w
def f_X10_roundOf_23 (k4 : Int32 → Int32 → Wd → Option (Int32 × Wd)) (k12 : Int32 → Int32 → Int32 → Wd → Option (Int32 × Wd)) : Nat → Int32 → Int32 → Int32 → Int32 → Wd → Option (Int32 × Wd)
  | 0, _, _, _, _, _ => none
  | n + 1, x1, x2, x3, x4, w => if 30 ≤ x4 then
        (k12 x1 x2 (x3 + 1) w)
      else
        (if x2 = 0 then
          (if inB x3 30 then (if (w.1 53 (ix x3)) = (-1) then
            (f_X10_roundOf_75 k4 k12 (f_X10_roundOf_23 k4 k12 n) x1 x3 x4 w)
          else
            (if inB x4 30 then (if (w.1 53 (ix x4)) = (-1) then
              (f_X10_roundOf_75 k4 k12 (f_X10_roundOf_23 k4 k12 n) x1 x3 x4 w)
            else
              (if inB x3 30 then (if inB x4 30 then (if (w.1 53 (ix x3)) = (w.1 53 (ix x4)) then
                (f_X10_roundOf_75 k4 k12 (f_X10_roundOf_23 k4 k12 n) x1 x3 x4 w)
              else
                (f_X10_roundOf_71 k4 k12 (f_X10_roundOf_23 k4 k12 n) x1 x3 x4 w)) else none) else none)) else none)) else none)
        else
          (f_X10_roundOf_71 k4 k12 (f_X10_roundOf_23 k4 k12 n) x1 x3 x4 w))
def f_X10_roundOf_12 (k4 : Int32 → Int32 → Wd → Option (Int32 × Wd)) : Nat → Int32 → Int32 → Int32 → Wd → Option (Int32 × Wd)
  | 0, _, _, _, _ => none
  | n + 1, x1, x2, x3, w => if 30 ≤ x3 then
        (if x2 = 0 then
          (k4 (x1 + 0) x2 w)
        else
          (k4 (x1 + 1) x2 w))
      else
        (f_X10_roundOf_23 k4 (f_X10_roundOf_12 k4 n) fu x1 x2 x3 (x3 + x1) w)
def f_X10_roundOf_4 : Nat → Int32 → Int32 → Wd → Option (Int32 × Wd)
  | 0, _, _, _ => none
  | n + 1, x1, x2, w => if x2 = 0 then
        (some (x1, w))
      else
        (f_X10_roundOf_12 (f_X10_roundOf_4 n) fu x1 0 0 w)
def f_X10_roundOf (w : Wd) : Option (Int32 × Wd) := f_X10_roundOf_4 fu 1 1 w
set_option maxRecDepth 100000 in
set_option maxHeartbeats 4000000 in
theorem v_X10_roundOf_76 {d : Nat} (hd9 : 0 ≤ d) {X : bX} (hX : bOk cX10_roundOf 5 RX10 d X) {r : (Int32 × Wd)} (hE : bEnd (some .int) (some (.int r.1)) r.2 X) {k4 : Int32 → Int32 → Wd → Option (Int32 × Wd)} {k12 : Int32 → Int32 → Int32 → Wd → Option (Int32 × Wd)} {k23 : Int32 → Int32 → Int32 → Int32 → Wd → Option (Int32 × Wd)} (hk4 : ∀ (x1 : Int32) (x2 : Int32) (w : Wd), k4 x1 x2 w = some r → bV X 4 [some (.ref 33), some (.int x1), some (.int x2), none, none] [] w) (hk12 : ∀ (x1 : Int32) (x2 : Int32) (x3 : Int32) (w : Wd), k12 x1 x2 x3 w = some r → bV X 12 [some (.ref 33), some (.int x1), some (.int x2), some (.int x3), none] [] w) (hk23 : ∀ (x1 : Int32) (x2 : Int32) (x3 : Int32) (x4 : Int32) (w : Wd), k23 x1 x2 x3 x4 w = some r → bV X 23 [some (.ref 33), some (.int x1), some (.int x2), some (.int x3), some (.int x4)] [] w) : ∀ (s0 : Int32) (x1 : Int32) (x3 : Int32) (x4 : Int32) (w : Wd), f_X10_roundOf_76 k4 k12 k23 s0 x1 x3 x4 w = some r → bV X 76 [some (.ref 33), some (.int x1), none, some (.int x3), some (.int x4)] [.int s0] w := by
  intro s0 x1 x3 x4 w hr
  unfold f_X10_roundOf_76 at hr
  refine V_istore_n hX dX10_roundOf_76 rfl (Nat.le_of_ble_eq_true rfl) rfl ?_
  refine V_iload hX dX10_roundOf_77 rfl ?_
  refine V_iload_n hX dX10_roundOf_79 rfl rfl ?_
  refine V_iadd hX dX10_roundOf_80 ?_
  refine V_istore hX dX10_roundOf_81 (Nat.le_of_ble_eq_true rfl) rfl ?_
  refine V_goto (tgt := 23) hX dX10_roundOf_83 (by decide) ?_
  refine V_mask [true, true, true, true, true] ?_
  exact hk23 _ _ _ _ _ hr
set_option maxRecDepth 100000 in
set_option maxHeartbeats 4000000 in
theorem v_X10_roundOf_75 {d : Nat} (hd9 : 0 ≤ d) {X : bX} (hX : bOk cX10_roundOf 5 RX10 d X) {r : (Int32 × Wd)} (hE : bEnd (some .int) (some (.int r.1)) r.2 X) {k4 : Int32 → Int32 → Wd → Option (Int32 × Wd)} {k12 : Int32 → Int32 → Int32 → Wd → Option (Int32 × Wd)} {k23 : Int32 → Int32 → Int32 → Int32 → Wd → Option (Int32 × Wd)} (hk4 : ∀ (x1 : Int32) (x2 : Int32) (w : Wd), k4 x1 x2 w = some r → bV X 4 [some (.ref 33), some (.int x1), some (.int x2), none, none] [] w) (hk12 : ∀ (x1 : Int32) (x2 : Int32) (x3 : Int32) (w : Wd), k12 x1 x2 x3 w = some r → bV X 12 [some (.ref 33), some (.int x1), some (.int x2), some (.int x3), none] [] w) (hk23 : ∀ (x1 : Int32) (x2 : Int32) (x3 : Int32) (x4 : Int32) (w : Wd), k23 x1 x2 x3 x4 w = some r → bV X 23 [some (.ref 33), some (.int x1), some (.int x2), some (.int x3), some (.int x4)] [] w) : ∀ (x1 : Int32) (x3 : Int32) (x4 : Int32) (w : Wd), f_X10_roundOf_75 k4 k12 k23 x1 x3 x4 w = some r → bV X 75 [some (.ref 33), some (.int x1), none, some (.int x3), some (.int x4)] [] w := by
  intro x1 x3 x4 w hr
  unfold f_X10_roundOf_75 at hr
  refine V_iconst hX dX10_roundOf_75 ic_0 ?_
  refine V_mask [true, true, false, true, true] ?_
  exact v_X10_roundOf_76 hd9 hX hE hk4 hk12 hk23 _ _ _ _ _ hr
set_option maxRecDepth 100000 in
set_option maxHeartbeats 4000000 in
theorem v_X10_roundOf_71 {d : Nat} (hd9 : 0 ≤ d) {X : bX} (hX : bOk cX10_roundOf 5 RX10 d X) {r : (Int32 × Wd)} (hE : bEnd (some .int) (some (.int r.1)) r.2 X) {k4 : Int32 → Int32 → Wd → Option (Int32 × Wd)} {k12 : Int32 → Int32 → Int32 → Wd → Option (Int32 × Wd)} {k23 : Int32 → Int32 → Int32 → Int32 → Wd → Option (Int32 × Wd)} (hk4 : ∀ (x1 : Int32) (x2 : Int32) (w : Wd), k4 x1 x2 w = some r → bV X 4 [some (.ref 33), some (.int x1), some (.int x2), none, none] [] w) (hk12 : ∀ (x1 : Int32) (x2 : Int32) (x3 : Int32) (w : Wd), k12 x1 x2 x3 w = some r → bV X 12 [some (.ref 33), some (.int x1), some (.int x2), some (.int x3), none] [] w) (hk23 : ∀ (x1 : Int32) (x2 : Int32) (x3 : Int32) (x4 : Int32) (w : Wd), k23 x1 x2 x3 x4 w = some r → bV X 23 [some (.ref 33), some (.int x1), some (.int x2), some (.int x3), some (.int x4)] [] w) : ∀ (x1 : Int32) (x3 : Int32) (x4 : Int32) (w : Wd), f_X10_roundOf_71 k4 k12 k23 x1 x3 x4 w = some r → bV X 71 [some (.ref 33), some (.int x1), none, some (.int x3), some (.int x4)] [] w := by
  intro x1 x3 x4 w hr
  unfold f_X10_roundOf_71 at hr
  refine V_iconst hX dX10_roundOf_71 ic_1 ?_
  refine V_goto (tgt := 76) hX dX10_roundOf_72 (by decide) ?_
  refine V_mask [true, true, false, true, true] ?_
  exact v_X10_roundOf_76 hd9 hX hE hk4 hk12 hk23 _ _ _ _ _ hr
set_option maxRecDepth 100000 in
set_option maxHeartbeats 4000000 in
theorem v_X10_roundOf_23 {d : Nat} (hd9 : 0 ≤ d) {X : bX} (hX : bOk cX10_roundOf 5 RX10 d X) {r : (Int32 × Wd)} (hE : bEnd (some .int) (some (.int r.1)) r.2 X) {k4 : Int32 → Int32 → Wd → Option (Int32 × Wd)} {k12 : Int32 → Int32 → Int32 → Wd → Option (Int32 × Wd)} (hk4 : ∀ (x1 : Int32) (x2 : Int32) (w : Wd), k4 x1 x2 w = some r → bV X 4 [some (.ref 33), some (.int x1), some (.int x2), none, none] [] w) (hk12 : ∀ (x1 : Int32) (x2 : Int32) (x3 : Int32) (w : Wd), k12 x1 x2 x3 w = some r → bV X 12 [some (.ref 33), some (.int x1), some (.int x2), some (.int x3), none] [] w) : ∀ (n : Nat) (x1 : Int32) (x2 : Int32) (x3 : Int32) (x4 : Int32) (w : Wd), f_X10_roundOf_23 k4 k12 n x1 x2 x3 x4 w = some r → bV X 23 [some (.ref 33), some (.int x1), some (.int x2), some (.int x3), some (.int x4)] [] w := by
  intro n
  induction n with
  | zero => intro x1 x2 x3 x4 w hr; exact absurd hr (by simp [f_X10_roundOf_23])
  | succ n ih =>
    intro x1 x2 x3 x4 w hr
    rw [f_X10_roundOf_23] at hr
    refine V_iload hX dX10_roundOf_23 rfl ?_
    refine V_bipush hX dX10_roundOf_25 bp_30 ?_
    refine V_icmp_ge (tgt := 86) hX dX10_roundOf_27 (by decide) (fun h27 => ?_) (fun h27 => ?_)
    · rw [if_pos h27] at hr
      refine V_iinc hX dX10_roundOf_86 rfl (ii_1 _) (Nat.le_of_ble_eq_true rfl) rfl ?_
      refine V_goto (tgt := 12) hX dX10_roundOf_89 (by decide) ?_
      refine V_mask [true, true, true, true, false] ?_
      exact hk12 _ _ _ _ hr
    · rw [if_neg h27] at hr
      refine V_iload_n hX dX10_roundOf_30 rfl rfl ?_
      refine V_if_ne (tgt := 71) hX dX10_roundOf_31 (by decide) (fun h31 => ?_) (fun h31 => ?_)
      · rw [if_neg h31] at hr
        refine V_mask [true, true, false, true, true] ?_
        exact v_X10_roundOf_71 hd9 hX hE hk4 hk12 ih _ _ _ _ hr
      · rw [if_pos h31] at hr
        refine V_aload_n hX dX10_roundOf_34 rfl rfl ?_
        refine G_RX10_74 hX dX10_roundOf_35 ?_
        refine V_iload_n hX dX10_roundOf_38 rfl rfl ?_
        obtain ⟨hn39, hr⟩ := ifn hr
        refine V_iald hX (Nat.le_of_ble_eq_true rfl) lay_53 (inB_in hn39) dX10_roundOf_39 ?_
        refine V_iconst hX dX10_roundOf_40 ic_m1 ?_
        refine V_icmp_eq (tgt := 75) hX dX10_roundOf_41 (by decide) (fun h41 => ?_) (fun h41 => ?_)
        · rw [if_pos h41] at hr
          refine V_mask [true, true, false, true, true] ?_
          exact v_X10_roundOf_75 hd9 hX hE hk4 hk12 ih _ _ _ _ hr
        · rw [if_neg h41] at hr
          refine V_aload_n hX dX10_roundOf_44 rfl rfl ?_
          refine G_RX10_74 hX dX10_roundOf_45 ?_
          refine V_iload hX dX10_roundOf_48 rfl ?_
          obtain ⟨hn50, hr⟩ := ifn hr
          refine V_iald hX (Nat.le_of_ble_eq_true rfl) lay_53 (inB_in hn50) dX10_roundOf_50 ?_
          refine V_iconst hX dX10_roundOf_51 ic_m1 ?_
          refine V_icmp_eq (tgt := 75) hX dX10_roundOf_52 (by decide) (fun h52 => ?_) (fun h52 => ?_)
          · rw [if_pos h52] at hr
            refine V_mask [true, true, false, true, true] ?_
            exact v_X10_roundOf_75 hd9 hX hE hk4 hk12 ih _ _ _ _ hr
          · rw [if_neg h52] at hr
            refine V_aload_n hX dX10_roundOf_55 rfl rfl ?_
            refine G_RX10_74 hX dX10_roundOf_56 ?_
            refine V_iload_n hX dX10_roundOf_59 rfl rfl ?_
            obtain ⟨hn60, hr⟩ := ifn hr
            refine V_iald hX (Nat.le_of_ble_eq_true rfl) lay_53 (inB_in hn60) dX10_roundOf_60 ?_
            refine V_aload_n hX dX10_roundOf_61 rfl rfl ?_
            refine G_RX10_74 hX dX10_roundOf_62 ?_
            refine V_iload hX dX10_roundOf_65 rfl ?_
            obtain ⟨hn67, hr⟩ := ifn hr
            refine V_iald hX (Nat.le_of_ble_eq_true rfl) lay_53 (inB_in hn67) dX10_roundOf_67 ?_
            refine V_icmp_eq (tgt := 75) hX dX10_roundOf_68 (by decide) (fun h68 => ?_) (fun h68 => ?_)
            · rw [if_pos h68] at hr
              refine V_mask [true, true, false, true, true] ?_
              exact v_X10_roundOf_75 hd9 hX hE hk4 hk12 ih _ _ _ _ hr
            · rw [if_neg h68] at hr
              refine V_mask [true, true, false, true, true] ?_
              exact v_X10_roundOf_71 hd9 hX hE hk4 hk12 ih _ _ _ _ hr
set_option maxRecDepth 100000 in
set_option maxHeartbeats 4000000 in
theorem v_X10_roundOf_12 {d : Nat} (hd9 : 0 ≤ d) {X : bX} (hX : bOk cX10_roundOf 5 RX10 d X) {r : (Int32 × Wd)} (hE : bEnd (some .int) (some (.int r.1)) r.2 X) {k4 : Int32 → Int32 → Wd → Option (Int32 × Wd)} (hk4 : ∀ (x1 : Int32) (x2 : Int32) (w : Wd), k4 x1 x2 w = some r → bV X 4 [some (.ref 33), some (.int x1), some (.int x2), none, none] [] w) : ∀ (n : Nat) (x1 : Int32) (x2 : Int32) (x3 : Int32) (w : Wd), f_X10_roundOf_12 k4 n x1 x2 x3 w = some r → bV X 12 [some (.ref 33), some (.int x1), some (.int x2), some (.int x3), none] [] w := by
  intro n
  induction n with
  | zero => intro x1 x2 x3 w hr; exact absurd hr (by simp [f_X10_roundOf_12])
  | succ n ih =>
    intro x1 x2 x3 w hr
    rw [f_X10_roundOf_12] at hr
    refine V_iload_n hX dX10_roundOf_12 rfl rfl ?_
    refine V_bipush hX dX10_roundOf_13 bp_30 ?_
    refine V_icmp_ge (tgt := 92) hX dX10_roundOf_15 (by decide) (fun h15 => ?_) (fun h15 => ?_)
    · rw [if_pos h15] at hr
      refine V_iload_n hX dX10_roundOf_92 rfl rfl ?_
      refine V_iload_n hX dX10_roundOf_93 rfl rfl ?_
      refine V_if_eq (tgt := 101) hX dX10_roundOf_94 (by decide) (fun h94 => ?_) (fun h94 => ?_)
      · rw [if_pos h94] at hr
        refine V_iconst hX dX10_roundOf_101 ic_0 ?_
        refine V_iadd hX dX10_roundOf_102 ?_
        refine V_istore_n hX dX10_roundOf_103 rfl (Nat.le_of_ble_eq_true rfl) rfl ?_
        refine V_goto (tgt := 4) hX dX10_roundOf_104 (by decide) ?_
        refine V_mask [true, true, true, false, false] ?_
        exact hk4 _ _ _ hr
      · rw [if_neg h94] at hr
        refine V_iconst hX dX10_roundOf_97 ic_1 ?_
        refine V_goto (tgt := 102) hX dX10_roundOf_98 (by decide) ?_
        refine V_iadd hX dX10_roundOf_102 ?_
        refine V_istore_n hX dX10_roundOf_103 rfl (Nat.le_of_ble_eq_true rfl) rfl ?_
        refine V_goto (tgt := 4) hX dX10_roundOf_104 (by decide) ?_
        refine V_mask [true, true, true, false, false] ?_
        exact hk4 _ _ _ hr
    · rw [if_neg h15] at hr
      refine V_iload_n hX dX10_roundOf_18 rfl rfl ?_
      refine V_iload_n hX dX10_roundOf_19 rfl rfl ?_
      refine V_iadd hX dX10_roundOf_20 ?_
      refine V_istore hX dX10_roundOf_21 (Nat.le_of_ble_eq_true rfl) rfl ?_
      refine V_mask [true, true, true, true, true] ?_
      exact v_X10_roundOf_23 hd9 hX hE hk4 ih _ _ _ _ _ _ hr
set_option maxRecDepth 100000 in
set_option maxHeartbeats 4000000 in
theorem v_X10_roundOf_4 {d : Nat} (hd9 : 0 ≤ d) {X : bX} (hX : bOk cX10_roundOf 5 RX10 d X) {r : (Int32 × Wd)} (hE : bEnd (some .int) (some (.int r.1)) r.2 X) : ∀ (n : Nat) (x1 : Int32) (x2 : Int32) (w : Wd), f_X10_roundOf_4 n x1 x2 w = some r → bV X 4 [some (.ref 33), some (.int x1), some (.int x2), none, none] [] w := by
  intro n
  induction n with
  | zero => intro x1 x2 w hr; exact absurd hr (by simp [f_X10_roundOf_4])
  | succ n ih =>
    intro x1 x2 w hr
    rw [f_X10_roundOf_4] at hr
    refine V_iload_n hX dX10_roundOf_4 rfl rfl ?_
    refine V_if_eq (tgt := 107) hX dX10_roundOf_5 (by decide) (fun h5 => ?_) (fun h5 => ?_)
    · rw [if_pos h5] at hr
      refine V_iload_n hX dX10_roundOf_107 rfl rfl ?_
      cases hr
      exact V_iret hX hE rfl dX10_roundOf_108
    · rw [if_neg h5] at hr
      refine V_iconst hX dX10_roundOf_8 ic_0 ?_
      refine V_istore_n hX dX10_roundOf_9 rfl (Nat.le_of_ble_eq_true rfl) rfl ?_
      refine V_iconst hX dX10_roundOf_10 ic_0 ?_
      refine V_istore_n hX dX10_roundOf_11 rfl (Nat.le_of_ble_eq_true rfl) rfl ?_
      refine V_mask [true, true, true, true, false] ?_
      exact v_X10_roundOf_12 hd9 hX hE ih _ _ _ _ _ hr
set_option maxRecDepth 100000 in
set_option maxHeartbeats 4000000 in
theorem c_X10_roundOf {d : Nat} (hd9 : 0 ≤ d) {w : Wd} {r : (Int32 × Wd)} (hr : f_X10_roundOf w = some r) : Con d yX10_roundOf cX10_roundOf 5 (some .int) [.ref 33] w (some (.int r.1)) r.2 := by
  refine Con_of (by decide) (Nat.le_of_ble_eq_true rfl) (fun X hX hE => ?_)
  have hX : bOk cX10_roundOf 5 RX10 d X := hX
  show bV X 0 [some (.ref 33), none, none, none, none] [] w
  unfold f_X10_roundOf at hr
  refine V_iconst hX dX10_roundOf_0 ic_1 ?_
  refine V_istore_n hX dX10_roundOf_1 rfl (Nat.le_of_ble_eq_true rfl) rfl ?_
  refine V_iconst hX dX10_roundOf_2 ic_1 ?_
  refine V_istore_n hX dX10_roundOf_3 rfl (Nat.le_of_ble_eq_true rfl) rfl ?_
  refine V_mask [true, true, true, false, false] ?_
  exact v_X10_roundOf_4 hd9 hX hE _ _ _ _ hr
def f_X10_round (w : Wd) : Option (Int32 × Wd) := Option.bind (f_X10_roundOf w) fun q1 =>
    some (q1.1, q1.2)
set_option maxRecDepth 100000 in
set_option maxHeartbeats 4000000 in
theorem c_X10_round {d : Nat} (hd9 : 1 ≤ d) {w : Wd} {r : (Int32 × Wd)} (hr : f_X10_round w = some r) : Con d yX10_round cX10_round 1 (some .int) [.ref 33] w (some (.int r.1)) r.2 := by
  refine Con_of (by decide) (Nat.le_of_ble_eq_true rfl) (fun X hX hE => ?_)
  have hX : bOk cX10_round 1 RX10 d X := hX
  show bV X 0 [some (.ref 33)] [] w
  obtain ⟨d, rfl⟩ : ∃ e, d = e + 1 := ⟨d - 1, by omega⟩
  unfold f_X10_round at hr
  refine V_aload_n hX dX10_round_0 rfl rfl ?_
  obtain ⟨q1, hq1, hr⟩ := bnd hr
  refine C_RX10_291 hX (c_X10_roundOf (by omega) hq1) (Nat.le_of_ble_eq_true rfl) dX10_round_1 ?_
  cases hr
  exact V_iret hX hE rfl dX10_round_4
def f_X10_whose_54 (k25 : Int32 → Int32 → Int32 → Wd → Option (Int32 × Wd)) (s0 : Int32) (x2 : Int32) (x4 : Int32) (w : Wd) : Option (Int32 × Wd) := k25 x2 s0 (x4 + x2) w
def f_X10_whose_25 : Nat → Int32 → Int32 → Int32 → Wd → Option (Int32 × Wd)
  | 0, _, _, _, _ => none
  | n + 1, x2, x3, x4, w => if 30 ≤ x4 then
        (some (x3, w))
      else
        (if inB x4 30 then (if (w.1 53 (ix x4)) = (-1) then
          (f_X10_whose_54 (f_X10_whose_25 n) x3 x2 x4 w)
        else
          (if inB x4 30 then (f_X10_whose_54 (f_X10_whose_25 n) (w.1 53 (ix x4)) x2 x4 w) else none)) else none)
def f_X10_whose (p0 : Int32) (w : Wd) : Option (Int32 × Wd) := Option.bind (f_X10_in p0 0 99 w) fun q1 =>
    if q1.1 = 0 then
      (some ((-3), q1.2))
    else
      (Option.bind (f_X10_roundOf q1.2) fun q2 =>
      if q2.1 = 0 then none else f_X10_whose_25 fu q2.1 (-1) (jrem p0 q2.1) q2.2)
set_option maxRecDepth 100000 in
set_option maxHeartbeats 4000000 in
theorem v_X10_whose_54 {d : Nat} (hd9 : 1 ≤ d) {X : bX} (hX : bOk cX10_whose 5 RX10 d X) {r : (Int32 × Wd)} (hE : bEnd (some .int) (some (.int r.1)) r.2 X) {k25 : Int32 → Int32 → Int32 → Wd → Option (Int32 × Wd)} (hk25 : ∀ (x2 : Int32) (x3 : Int32) (x4 : Int32) (w : Wd), k25 x2 x3 x4 w = some r → bV X 25 [some (.ref 33), none, some (.int x2), some (.int x3), some (.int x4)] [] w) : ∀ (s0 : Int32) (x2 : Int32) (x4 : Int32) (w : Wd), f_X10_whose_54 k25 s0 x2 x4 w = some r → bV X 54 [some (.ref 33), none, some (.int x2), none, some (.int x4)] [.int s0] w := by
  intro s0 x2 x4 w hr
  obtain ⟨d, rfl⟩ : ∃ e, d = e + 1 := ⟨d - 1, by omega⟩
  unfold f_X10_whose_54 at hr
  refine V_istore_n hX dX10_whose_54 rfl (Nat.le_of_ble_eq_true rfl) rfl ?_
  refine V_iload hX dX10_whose_55 rfl ?_
  refine V_iload_n hX dX10_whose_57 rfl rfl ?_
  refine V_iadd hX dX10_whose_58 ?_
  refine V_istore hX dX10_whose_59 (Nat.le_of_ble_eq_true rfl) rfl ?_
  refine V_goto (tgt := 25) hX dX10_whose_61 (by decide) ?_
  refine V_mask [true, false, true, true, true] ?_
  exact hk25 _ _ _ _ hr
set_option maxRecDepth 100000 in
set_option maxHeartbeats 4000000 in
theorem v_X10_whose_25 {d : Nat} (hd9 : 1 ≤ d) {X : bX} (hX : bOk cX10_whose 5 RX10 d X) {r : (Int32 × Wd)} (hE : bEnd (some .int) (some (.int r.1)) r.2 X) : ∀ (n : Nat) (x2 : Int32) (x3 : Int32) (x4 : Int32) (w : Wd), f_X10_whose_25 n x2 x3 x4 w = some r → bV X 25 [some (.ref 33), none, some (.int x2), some (.int x3), some (.int x4)] [] w := by
  obtain ⟨d, rfl⟩ : ∃ e, d = e + 1 := ⟨d - 1, by omega⟩
  intro n
  induction n with
  | zero => intro x2 x3 x4 w hr; exact absurd hr (by simp [f_X10_whose_25])
  | succ n ih =>
    intro x2 x3 x4 w hr
    rw [f_X10_whose_25] at hr
    refine V_iload hX dX10_whose_25 rfl ?_
    refine V_bipush hX dX10_whose_27 bp_30 ?_
    refine V_icmp_ge (tgt := 64) hX dX10_whose_29 (by decide) (fun h29 => ?_) (fun h29 => ?_)
    · rw [if_pos h29] at hr
      refine V_iload_n hX dX10_whose_64 rfl rfl ?_
      cases hr
      exact V_iret hX hE rfl dX10_whose_65
    · rw [if_neg h29] at hr
      refine V_aload_n hX dX10_whose_32 rfl rfl ?_
      refine G_RX10_74 hX dX10_whose_33 ?_
      refine V_iload hX dX10_whose_36 rfl ?_
      obtain ⟨hn38, hr⟩ := ifn hr
      refine V_iald hX (Nat.le_of_ble_eq_true rfl) lay_53 (inB_in hn38) dX10_whose_38 ?_
      refine V_iconst hX dX10_whose_39 ic_m1 ?_
      refine V_icmp_ne (tgt := 47) hX dX10_whose_40 (by decide) (fun h40 => ?_) (fun h40 => ?_)
      · rw [if_neg h40] at hr
        refine V_aload_n hX dX10_whose_47 rfl rfl ?_
        refine G_RX10_74 hX dX10_whose_48 ?_
        refine V_iload hX dX10_whose_51 rfl ?_
        obtain ⟨hn53, hr⟩ := ifn hr
        refine V_iald hX (Nat.le_of_ble_eq_true rfl) lay_53 (inB_in hn53) dX10_whose_53 ?_
        refine V_mask [true, false, true, false, true] ?_
        exact v_X10_whose_54 hd9 hX hE ih _ _ _ _ hr
      · rw [if_pos h40] at hr
        refine V_iload_n hX dX10_whose_43 rfl rfl ?_
        refine V_goto (tgt := 54) hX dX10_whose_44 (by decide) ?_
        refine V_mask [true, false, true, false, true] ?_
        exact v_X10_whose_54 hd9 hX hE ih _ _ _ _ hr
set_option maxRecDepth 100000 in
set_option maxHeartbeats 4000000 in
theorem c_X10_whose {d : Nat} (hd9 : 1 ≤ d) {p0 : Int32} {w : Wd} {r : (Int32 × Wd)} (hr : f_X10_whose p0 w = some r) : Con d yX10_whose cX10_whose 5 (some .int) [.ref 33, .int p0] w (some (.int r.1)) r.2 := by
  refine Con_of (by decide) (Nat.le_of_ble_eq_true rfl) (fun X hX hE => ?_)
  have hX : bOk cX10_whose 5 RX10 d X := hX
  show bV X 0 [some (.ref 33), some (.int p0), none, none, none] [] w
  obtain ⟨d, rfl⟩ : ∃ e, d = e + 1 := ⟨d - 1, by omega⟩
  unfold f_X10_whose at hr
  refine V_iload_n hX dX10_whose_0 rfl rfl ?_
  refine V_iconst hX dX10_whose_1 ic_0 ?_
  refine V_bipush hX dX10_whose_2 bp_99 ?_
  obtain ⟨q1, hq1, hr⟩ := bnd hr
  refine C_RX10_86 hX (c_X10_in (by omega) hq1) (Nat.le_of_ble_eq_true rfl) dX10_whose_4 ?_
  refine V_if_ne (tgt := 13) hX dX10_whose_7 (by decide) (fun h7 => ?_) (fun h7 => ?_)
  · rw [if_neg h7] at hr
    refine V_aload_n hX dX10_whose_13 rfl rfl ?_
    obtain ⟨q2, hq2, hr⟩ := bnd hr
    refine C_RX10_291 hX (c_X10_roundOf (by omega) hq2) (Nat.le_of_ble_eq_true rfl) dX10_whose_14 ?_
    refine V_istore_n hX dX10_whose_17 rfl (Nat.le_of_ble_eq_true rfl) rfl ?_
    refine V_iconst hX dX10_whose_18 ic_m1 ?_
    refine V_istore_n hX dX10_whose_19 rfl (Nat.le_of_ble_eq_true rfl) rfl ?_
    refine V_iload_n hX dX10_whose_20 rfl rfl ?_
    refine V_iload_n hX dX10_whose_21 rfl rfl ?_
    obtain ⟨hn22, hr⟩ := ifz hr
    refine V_irem hX dX10_whose_22 hn22 ?_
    refine V_istore hX dX10_whose_23 (Nat.le_of_ble_eq_true rfl) rfl ?_
    refine V_mask [true, false, true, true, true] ?_
    exact v_X10_whose_25 hd9 hX hE _ _ _ _ _ hr
  · rw [if_pos h7] at hr
    refine V_bipush hX dX10_whose_10 bp_m3 ?_
    cases hr
    exact V_iret hX hE rfl dX10_whose_12
def f_X10_picture (p0 : Int32) (p1 : Int32) (p2 : Int32) (w : Wd) : Option (Int32 × Wd) := Option.bind (f_X10_in p0 0 1 w) fun q1 =>
    if q1.1 = 0 then
      (some ((-3), q1.2))
    else
      (Option.bind (f_X10_in p1 0 60 q1.2) fun q2 =>
      if q2.1 = 0 then
        (some ((-3), q2.2))
      else
        (Option.bind (f_X10_in p2 0 255 q2.2) fun q3 =>
        if q3.1 = 0 then
          (some ((-3), q3.2))
        else
          (if (q3.2.1 33 35) = 8 then
            (some ((-5), q3.2))
          else
            (if inB (q3.2.1 33 35) 8 then (if inB ((wS q3.2 54 (ix (q3.2.1 33 35)) p0).1 33 35) 8 then (if inB ((wS (wS q3.2 54 (ix (q3.2.1 33 35)) p0) 55 (ix ((wS q3.2 54 (ix (q3.2.1 33 35)) p0).1 33 35)) p1).1 33 35) 8 then (some (((wS (wS (wS (wS q3.2 54 (ix (q3.2.1 33 35)) p0) 55 (ix ((wS q3.2 54 (ix (q3.2.1 33 35)) p0).1 33 35)) p1) 56 (ix ((wS (wS q3.2 54 (ix (q3.2.1 33 35)) p0) 55 (ix ((wS q3.2 54 (ix (q3.2.1 33 35)) p0).1 33 35)) p1).1 33 35)) p2) 33 35 (((wS (wS (wS q3.2 54 (ix (q3.2.1 33 35)) p0) 55 (ix ((wS q3.2 54 (ix (q3.2.1 33 35)) p0).1 33 35)) p1) 56 (ix ((wS (wS q3.2 54 (ix (q3.2.1 33 35)) p0) 55 (ix ((wS q3.2 54 (ix (q3.2.1 33 35)) p0).1 33 35)) p1).1 33 35)) p2).1 33 35) + 1)).1 33 35), (wS (wS (wS (wS q3.2 54 (ix (q3.2.1 33 35)) p0) 55 (ix ((wS q3.2 54 (ix (q3.2.1 33 35)) p0).1 33 35)) p1) 56 (ix ((wS (wS q3.2 54 (ix (q3.2.1 33 35)) p0) 55 (ix ((wS q3.2 54 (ix (q3.2.1 33 35)) p0).1 33 35)) p1).1 33 35)) p2) 33 35 (((wS (wS (wS q3.2 54 (ix (q3.2.1 33 35)) p0) 55 (ix ((wS q3.2 54 (ix (q3.2.1 33 35)) p0).1 33 35)) p1) 56 (ix ((wS (wS q3.2 54 (ix (q3.2.1 33 35)) p0) 55 (ix ((wS q3.2 54 (ix (q3.2.1 33 35)) p0).1 33 35)) p1).1 33 35)) p2).1 33 35) + 1)))) else none) else none) else none))))
set_option maxRecDepth 100000 in
set_option maxHeartbeats 4000000 in
theorem c_X10_picture {d : Nat} (hd9 : 1 ≤ d) {p0 : Int32} {p1 : Int32} {p2 : Int32} {w : Wd} {r : (Int32 × Wd)} (hr : f_X10_picture p0 p1 p2 w = some r) : Con d yX10_picture cX10_picture 4 (some .int) [.ref 33, .int p0, .int p1, .int p2] w (some (.int r.1)) r.2 := by
  refine Con_of (by decide) (Nat.le_of_ble_eq_true rfl) (fun X hX hE => ?_)
  have hX : bOk cX10_picture 4 RX10 d X := hX
  show bV X 0 [some (.ref 33), some (.int p0), some (.int p1), some (.int p2)] [] w
  obtain ⟨d, rfl⟩ : ∃ e, d = e + 1 := ⟨d - 1, by omega⟩
  unfold f_X10_picture at hr
  refine V_iload_n hX dX10_picture_0 rfl rfl ?_
  refine V_iconst hX dX10_picture_1 ic_0 ?_
  refine V_iconst hX dX10_picture_2 ic_1 ?_
  obtain ⟨q1, hq1, hr⟩ := bnd hr
  refine C_RX10_86 hX (c_X10_in (by omega) hq1) (Nat.le_of_ble_eq_true rfl) dX10_picture_3 ?_
  refine V_if_eq (tgt := 30) hX dX10_picture_6 (by decide) (fun h6 => ?_) (fun h6 => ?_)
  · rw [if_pos h6] at hr
    refine V_bipush hX dX10_picture_30 bp_m3 ?_
    cases hr
    exact V_iret hX hE rfl dX10_picture_32
  · rw [if_neg h6] at hr
    refine V_iload_n hX dX10_picture_9 rfl rfl ?_
    refine V_iconst hX dX10_picture_10 ic_0 ?_
    refine V_bipush hX dX10_picture_11 bp_60 ?_
    obtain ⟨q2, hq2, hr⟩ := bnd hr
    refine C_RX10_86 hX (c_X10_in (by omega) hq2) (Nat.le_of_ble_eq_true rfl) dX10_picture_13 ?_
    refine V_if_eq (tgt := 30) hX dX10_picture_16 (by decide) (fun h16 => ?_) (fun h16 => ?_)
    · rw [if_pos h16] at hr
      refine V_bipush hX dX10_picture_30 bp_m3 ?_
      cases hr
      exact V_iret hX hE rfl dX10_picture_32
    · rw [if_neg h16] at hr
      refine V_iload_n hX dX10_picture_19 rfl rfl ?_
      refine V_iconst hX dX10_picture_20 ic_0 ?_
      refine V_sipush hX dX10_picture_21 sp_255 ?_
      obtain ⟨q3, hq3, hr⟩ := bnd hr
      refine C_RX10_86 hX (c_X10_in (by omega) hq3) (Nat.le_of_ble_eq_true rfl) dX10_picture_24 ?_
      refine V_if_ne (tgt := 33) hX dX10_picture_27 (by decide) (fun h27 => ?_) (fun h27 => ?_)
      · rw [if_neg h27] at hr
        refine V_aload_n hX dX10_picture_33 rfl rfl ?_
        refine G_RX10_294 hX dX10_picture_34 ?_
        refine V_bipush hX dX10_picture_37 bp_8 ?_
        refine V_icmp_ne (tgt := 45) hX dX10_picture_39 (by decide) (fun h39 => ?_) (fun h39 => ?_)
        · rw [if_neg h39] at hr
          refine V_aload_n hX dX10_picture_45 rfl rfl ?_
          refine G_RX10_77 hX dX10_picture_46 ?_
          refine V_aload_n hX dX10_picture_49 rfl rfl ?_
          refine G_RX10_294 hX dX10_picture_50 ?_
          refine V_iload_n hX dX10_picture_53 rfl rfl ?_
          obtain ⟨hn54, hr⟩ := ifn hr
          refine V_iast hX (Nat.le_of_ble_eq_true rfl) lay_54 (inB_in hn54) dX10_picture_54 ?_
          refine V_aload_n hX dX10_picture_55 rfl rfl ?_
          refine G_RX10_80 hX dX10_picture_56 ?_
          refine V_aload_n hX dX10_picture_59 rfl rfl ?_
          refine G_RX10_294 hX dX10_picture_60 ?_
          refine V_iload_n hX dX10_picture_63 rfl rfl ?_
          obtain ⟨hn64, hr⟩ := ifn hr
          refine V_iast hX (Nat.le_of_ble_eq_true rfl) lay_55 (inB_in hn64) dX10_picture_64 ?_
          refine V_aload_n hX dX10_picture_65 rfl rfl ?_
          refine G_RX10_83 hX dX10_picture_66 ?_
          refine V_aload_n hX dX10_picture_69 rfl rfl ?_
          refine G_RX10_294 hX dX10_picture_70 ?_
          refine V_iload_n hX dX10_picture_73 rfl rfl ?_
          obtain ⟨hn74, hr⟩ := ifn hr
          refine V_iast hX (Nat.le_of_ble_eq_true rfl) lay_56 (inB_in hn74) dX10_picture_74 ?_
          refine V_aload_n hX dX10_picture_75 rfl rfl ?_
          refine V_dup hX dX10_picture_76 rfl ?_
          refine G_RX10_294 hX dX10_picture_77 ?_
          refine V_iconst hX dX10_picture_80 ic_1 ?_
          refine V_iadd hX dX10_picture_81 ?_
          refine P_RX10_294 hX dX10_picture_82 ?_
          refine V_aload_n hX dX10_picture_85 rfl rfl ?_
          refine G_RX10_294 hX dX10_picture_86 ?_
          cases hr
          exact V_iret hX hE rfl dX10_picture_89
        · rw [if_pos h39] at hr
          refine V_bipush hX dX10_picture_42 bp_m5 ?_
          cases hr
          exact V_iret hX hE rfl dX10_picture_44
      · rw [if_pos h27] at hr
        refine V_bipush hX dX10_picture_30 bp_m3 ?_
        cases hr
        exact V_iret hX hE rfl dX10_picture_32
def f_X10_doesShow (p0 : Int32) (p1 : Int32) (w : Wd) : Option (Int32 × Wd) := Option.bind (f_X10_of p1 0 w) fun q1 =>
    if inB p0 8 then (if q1.1 = (q1.2.1 54 (ix p0)) then
      (some (0, q1.2))
    else
      (Option.bind (f_X10_of p1 6 q1.2) fun q2 =>
      if inB p0 8 then (if q2.1 < (q2.2.1 55 (ix p0)) then
        (some (0, q2.2))
      else
        (some (1, q2.2))) else none)) else none
set_option maxRecDepth 100000 in
set_option maxHeartbeats 4000000 in
theorem c_X10_doesShow {d : Nat} (hd9 : 1 ≤ d) {p0 : Int32} {p1 : Int32} {w : Wd} {r : (Int32 × Wd)} (hr : f_X10_doesShow p0 p1 w = some r) : Con d yX10_doesShow cX10_doesShow 3 (some .boolean) [.ref 33, .int p0, .int p1] w (some (.int r.1)) r.2 := by
  refine Con_of (by decide) (Nat.le_of_ble_eq_true rfl) (fun X hX hE => ?_)
  have hX : bOk cX10_doesShow 3 RX10 d X := hX
  show bV X 0 [some (.ref 33), some (.int p0), some (.int p1)] [] w
  obtain ⟨d, rfl⟩ : ∃ e, d = e + 1 := ⟨d - 1, by omega⟩
  unfold f_X10_doesShow at hr
  refine V_aload_n hX dX10_doesShow_0 rfl rfl ?_
  refine V_iload_n hX dX10_doesShow_1 rfl rfl ?_
  refine V_iconst hX dX10_doesShow_2 ic_0 ?_
  obtain ⟨q1, hq1, hr⟩ := bnd hr
  refine C_RX10_184 hX (c_X10_of (by omega) hq1) (Nat.le_of_ble_eq_true rfl) dX10_doesShow_3 ?_
  refine V_aload_n hX dX10_doesShow_6 rfl rfl ?_
  refine G_RX10_77 hX dX10_doesShow_7 ?_
  refine V_iload_n hX dX10_doesShow_10 rfl rfl ?_
  obtain ⟨hn11, hr⟩ := ifn hr
  refine V_iald hX (Nat.le_of_ble_eq_true rfl) lay_54 (inB_in hn11) dX10_doesShow_11 ?_
  refine V_icmp_eq (tgt := 35) hX dX10_doesShow_12 (by decide) (fun h12 => ?_) (fun h12 => ?_)
  · rw [if_pos h12] at hr
    refine V_iconst hX dX10_doesShow_35 ic_0 ?_
    cases hr
    exact V_iret hX hE rfl dX10_doesShow_36
  · rw [if_neg h12] at hr
    refine V_aload_n hX dX10_doesShow_15 rfl rfl ?_
    refine V_iload_n hX dX10_doesShow_16 rfl rfl ?_
    refine V_bipush hX dX10_doesShow_17 bp_6 ?_
    obtain ⟨q2, hq2, hr⟩ := bnd hr
    refine C_RX10_184 hX (c_X10_of (by omega) hq2) (Nat.le_of_ble_eq_true rfl) dX10_doesShow_19 ?_
    refine V_aload_n hX dX10_doesShow_22 rfl rfl ?_
    refine G_RX10_80 hX dX10_doesShow_23 ?_
    refine V_iload_n hX dX10_doesShow_26 rfl rfl ?_
    obtain ⟨hn27, hr⟩ := ifn hr
    refine V_iald hX (Nat.le_of_ble_eq_true rfl) lay_55 (inB_in hn27) dX10_doesShow_27 ?_
    refine V_icmp_lt (tgt := 35) hX dX10_doesShow_28 (by decide) (fun h28 => ?_) (fun h28 => ?_)
    · rw [if_pos h28] at hr
      refine V_iconst hX dX10_doesShow_35 ic_0 ?_
      cases hr
      exact V_iret hX hE rfl dX10_doesShow_36
    · rw [if_neg h28] at hr
      refine V_iconst hX dX10_doesShow_31 ic_1 ?_
      refine V_goto (tgt := 36) hX dX10_doesShow_32 (by decide) ?_
      cases hr
      exact V_iret hX hE rfl dX10_doesShow_36
def f_X10_shows (p0 : Int32) (p1 : Int32) (w : Wd) : Option (Int32 × Wd) := Option.bind (f_X10_in p0 0 ((w.1 33 35) - 1) w) fun q1 =>
    if q1.1 = 0 then
      (some ((-2), q1.2))
    else
      (Option.bind (f_X10_isBundle p1 q1.2) fun q2 =>
      if q2.1 = 0 then
        (some ((-2), q2.2))
      else
        (Option.bind (f_X10_doesShow p0 p1 q2.2) fun q3 =>
        if q3.1 = 0 then
          (some (0, q3.2))
        else
          (some (1, q3.2))))
set_option maxRecDepth 100000 in
set_option maxHeartbeats 4000000 in
theorem c_X10_shows {d : Nat} (hd9 : 3 ≤ d) {p0 : Int32} {p1 : Int32} {w : Wd} {r : (Int32 × Wd)} (hr : f_X10_shows p0 p1 w = some r) : Con d yX10_shows cX10_shows 3 (some .int) [.ref 33, .int p0, .int p1] w (some (.int r.1)) r.2 := by
  refine Con_of (by decide) (Nat.le_of_ble_eq_true rfl) (fun X hX hE => ?_)
  have hX : bOk cX10_shows 3 RX10 d X := hX
  show bV X 0 [some (.ref 33), some (.int p0), some (.int p1)] [] w
  obtain ⟨d, rfl⟩ : ∃ e, d = e + 1 := ⟨d - 1, by omega⟩
  unfold f_X10_shows at hr
  refine V_iload_n hX dX10_shows_0 rfl rfl ?_
  refine V_iconst hX dX10_shows_1 ic_0 ?_
  refine V_aload_n hX dX10_shows_2 rfl rfl ?_
  refine G_RX10_294 hX dX10_shows_3 ?_
  refine V_iconst hX dX10_shows_6 ic_1 ?_
  refine V_isub hX dX10_shows_7 ?_
  obtain ⟨q1, hq1, hr⟩ := bnd hr
  refine C_RX10_86 hX (c_X10_in (by omega) hq1) (Nat.le_of_ble_eq_true rfl) dX10_shows_8 ?_
  refine V_if_eq (tgt := 22) hX dX10_shows_11 (by decide) (fun h11 => ?_) (fun h11 => ?_)
  · rw [if_pos h11] at hr
    refine V_bipush hX dX10_shows_22 bp_m2 ?_
    cases hr
    exact V_iret hX hE rfl dX10_shows_24
  · rw [if_neg h11] at hr
    refine V_aload_n hX dX10_shows_14 rfl rfl ?_
    refine V_iload_n hX dX10_shows_15 rfl rfl ?_
    obtain ⟨q2, hq2, hr⟩ := bnd hr
    refine C_RX10_205 hX (c_X10_isBundle (by omega) hq2) (Nat.le_of_ble_eq_true rfl) dX10_shows_16 ?_
    refine V_if_ne (tgt := 25) hX dX10_shows_19 (by decide) (fun h19 => ?_) (fun h19 => ?_)
    · rw [if_neg h19] at hr
      refine V_aload_n hX dX10_shows_25 rfl rfl ?_
      refine V_iload_n hX dX10_shows_26 rfl rfl ?_
      refine V_iload_n hX dX10_shows_27 rfl rfl ?_
      obtain ⟨q3, hq3, hr⟩ := bnd hr
      refine C_RX10_297 hX (c_X10_doesShow (by omega) hq3) (Nat.le_of_ble_eq_true rfl) dX10_shows_28 ?_
      refine V_if_eq (tgt := 38) hX dX10_shows_31 (by decide) (fun h31 => ?_) (fun h31 => ?_)
      · rw [if_pos h31] at hr
        refine V_iconst hX dX10_shows_38 ic_0 ?_
        cases hr
        exact V_iret hX hE rfl dX10_shows_39
      · rw [if_neg h31] at hr
        refine V_iconst hX dX10_shows_34 ic_1 ?_
        refine V_goto (tgt := 39) hX dX10_shows_35 (by decide) ?_
        cases hr
        exact V_iret hX hE rfl dX10_shows_39
    · rw [if_pos h19] at hr
      refine V_bipush hX dX10_shows_22 bp_m2 ?_
      cases hr
      exact V_iret hX hE rfl dX10_shows_24
