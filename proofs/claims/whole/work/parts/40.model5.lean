def f_X10_seen_159 (k22 : Int32 → Int32 → Int32 → Int32 → Int32 → Wd → Option (Int32 × Wd)) (s0 : Int32) (s1 : Int32) (x1 : Int32) (x2 : Int32) (x4 : Int32) (x5 : Int32) (x6 : Int32) (w : Wd) : Option (Int32 × Wd) := if x6 = 0 then
      (Option.bind (f_X10_of x5 0 w) fun q1 =>
      if q1.1 = 0 then
        (k22 x1 x2 (s0 ||| s1) (x4 + 1) (x5 + 1) q1.2)
      else
        (k22 x1 x2 (s0 ||| s1) (x4 + (-1)) (x5 + 1) q1.2))
    else
      (k22 x1 x2 (s0 ||| s1) (x4 + 0) (x5 + 1) w)
def f_X10_seen_111 (k22 : Int32 → Int32 → Int32 → Int32 → Int32 → Wd → Option (Int32 × Wd)) (k47 : Int32 → Int32 → Int32 → Int32 → Int32 → Int32 → Int32 → Int32 → Wd → Option (Int32 × Wd)) (x1 : Int32) (x2 : Int32) (x3 : Int32) (x4 : Int32) (x5 : Int32) (x6 : Int32) (x8 : Int32) (w : Wd) : Option (Int32 × Wd) := k47 x1 x2 x3 x4 x5 x6 1 (x8 + 1) w
def f_X10_seen_143 (k22 : Int32 → Int32 → Int32 → Int32 → Int32 → Wd → Option (Int32 × Wd)) (s0 : Int32) (s1 : Int32) (x1 : Int32) (x3 : Int32) (x4 : Int32) (x5 : Int32) (x6 : Int32) (x7 : Int32) (w : Wd) : Option (Int32 × Wd) := if x7 = 0 then
      (f_X10_seen_159 k22 x3 0 x1 (s0 ||| s1) x4 x5 x6 w)
    else
      (f_X10_seen_159 k22 x3 (jshl 1 x5) x1 (s0 ||| s1) x4 x5 x6 w)
def f_X10_seen_77 (k22 : Int32 → Int32 → Int32 → Int32 → Int32 → Wd → Option (Int32 × Wd)) (k47 : Int32 → Int32 → Int32 → Int32 → Int32 → Int32 → Int32 → Int32 → Wd → Option (Int32 × Wd)) (s0 : Int32) (x1 : Int32) (x2 : Int32) (x3 : Int32) (x4 : Int32) (x5 : Int32) (x7 : Int32) (x8 : Int32) (w : Wd) : Option (Int32 × Wd) := if x7 = 0 then
      (Option.bind (f_X10_doesShow x8 x5 w) fun q1 =>
      if q1.1 = 0 then
        (k47 x1 x2 x3 x4 x5 s0 0 (x8 + 1) q1.2)
      else
        (if inB x8 8 then (if ((jshr (q1.2.1 56 (ix x8)) x5) &&& 1) = 1 then
          (f_X10_seen_111 k22 k47 x1 x2 x3 x4 x5 s0 x8 q1.2)
        else
          (k47 x1 x2 x3 x4 x5 s0 0 (x8 + 1) q1.2)) else none))
    else
      (f_X10_seen_111 k22 k47 x1 x2 x3 x4 x5 s0 x8 w)
def f_X10_seen_142 (k22 : Int32 → Int32 → Int32 → Int32 → Int32 → Wd → Option (Int32 × Wd)) (s0 : Int32) (x1 : Int32) (x3 : Int32) (x4 : Int32) (x5 : Int32) (x6 : Int32) (x7 : Int32) (w : Wd) : Option (Int32 × Wd) := f_X10_seen_143 k22 s0 0 x1 x3 x4 x5 x6 x7 w
def f_X10_seen_72 (k22 : Int32 → Int32 → Int32 → Int32 → Int32 → Wd → Option (Int32 × Wd)) (k47 : Int32 → Int32 → Int32 → Int32 → Int32 → Int32 → Int32 → Int32 → Wd → Option (Int32 × Wd)) (x1 : Int32) (x2 : Int32) (x3 : Int32) (x4 : Int32) (x5 : Int32) (x7 : Int32) (x8 : Int32) (w : Wd) : Option (Int32 × Wd) := f_X10_seen_77 k22 k47 1 x1 x2 x3 x4 x5 x7 x8 w
def f_X10_seen_47 (k22 : Int32 → Int32 → Int32 → Int32 → Int32 → Wd → Option (Int32 × Wd)) : Nat → Int32 → Int32 → Int32 → Int32 → Int32 → Int32 → Int32 → Int32 → Wd → Option (Int32 × Wd)
  | 0, _, _, _, _, _, _, _, _, _ => none
  | n + 1, x1, x2, x3, x4, x5, x6, x7, x8, w => if (w.1 33 35) ≤ x8 then
        (if x6 = 0 then
          (f_X10_seen_142 k22 x2 x1 x3 x4 x5 x6 x7 w)
        else
          (if x7 = 0 then
            (f_X10_seen_143 k22 x2 (jshl 1 x5) x1 x3 x4 x5 x6 x7 w)
          else
            (f_X10_seen_142 k22 x2 x1 x3 x4 x5 x6 x7 w)))
      else
        (if x6 = 0 then
          (Option.bind (f_X10_doesShow x8 x5 w) fun q1 =>
          if q1.1 = 0 then
            (f_X10_seen_77 k22 (f_X10_seen_47 k22 n) 0 x1 x2 x3 x4 x5 x7 x8 q1.2)
          else
            (f_X10_seen_72 k22 (f_X10_seen_47 k22 n) x1 x2 x3 x4 x5 x7 x8 q1.2))
        else
          (f_X10_seen_72 k22 (f_X10_seen_47 k22 n) x1 x2 x3 x4 x5 x7 x8 w))
def f_X10_seen_22 : Nat → Int32 → Int32 → Int32 → Int32 → Int32 → Wd → Option (Int32 × Wd)
  | 0, _, _, _, _, _, _ => none
  | n + 1, x1, x2, x3, x4, x5, w => if 8 ≤ x5 then
        (if x1 = 0 then
          (some (x2, w))
        else
          (if x1 = 1 then
            (some (x3, w))
          else
            (if x4 ≤ 0 then
              (some (0, w))
            else
              (some (1, w)))))
      else
        (Option.bind (f_X10_isBundle x5 w) fun q1 =>
        if q1.1 = 0 then
          (f_X10_seen_22 n x1 x2 x3 x4 (x5 + 1) q1.2)
        else
          (f_X10_seen_47 (f_X10_seen_22 n) fu x1 x2 x3 x4 x5 0 0 0 q1.2))
def f_X10_seen (p0 : Int32) (w : Wd) : Option (Int32 × Wd) := Option.bind (f_X10_in p0 0 2 w) fun q1 =>
    if q1.1 = 0 then
      (some ((-3), q1.2))
    else
      (f_X10_seen_22 fu p0 0 0 0 0 q1.2)
set_option maxRecDepth 100000 in
set_option maxHeartbeats 4000000 in
theorem v_X10_seen_159 {d : Nat} (hd9 : 3 ≤ d) {X : bX} (hX : bOk cX10_seen 9 RX10 d X) {r : (Int32 × Wd)} (hE : bEnd (some .int) (some (.int r.1)) r.2 X) {k22 : Int32 → Int32 → Int32 → Int32 → Int32 → Wd → Option (Int32 × Wd)} (hk22 : ∀ (x1 : Int32) (x2 : Int32) (x3 : Int32) (x4 : Int32) (x5 : Int32) (w : Wd), k22 x1 x2 x3 x4 x5 w = some r → bV X 22 [some (.ref 33), some (.int x1), some (.int x2), some (.int x3), some (.int x4), some (.int x5), none, none, none] [] w) : ∀ (s0 : Int32) (s1 : Int32) (x1 : Int32) (x2 : Int32) (x4 : Int32) (x5 : Int32) (x6 : Int32) (w : Wd), f_X10_seen_159 k22 s0 s1 x1 x2 x4 x5 x6 w = some r → bV X 159 [some (.ref 33), some (.int x1), some (.int x2), none, some (.int x4), some (.int x5), some (.int x6), none, none] [.int s1, .int s0] w := by
  intro s0 s1 x1 x2 x4 x5 x6 w hr
  obtain ⟨d, rfl⟩ : ∃ e, d = e + 1 := ⟨d - 1, by omega⟩
  unfold f_X10_seen_159 at hr
  refine V_ior hX dX10_seen_159 ?_
  refine V_istore_n hX dX10_seen_160 rfl (Nat.le_of_ble_eq_true rfl) rfl ?_
  refine V_iload hX dX10_seen_161 rfl ?_
  refine V_iload hX dX10_seen_163 rfl ?_
  refine V_if_eq (tgt := 172) hX dX10_seen_165 (by decide) (fun h165 => ?_) (fun h165 => ?_)
  · rw [if_pos h165] at hr
    refine V_aload_n hX dX10_seen_172 rfl rfl ?_
    refine V_iload hX dX10_seen_173 rfl ?_
    refine V_iconst hX dX10_seen_175 ic_0 ?_
    obtain ⟨q1, hq1, hr⟩ := bnd hr
    refine C_RX10_184 hX (c_X10_of (by omega) hq1) (Nat.le_of_ble_eq_true rfl) dX10_seen_176 ?_
    refine V_if_ne (tgt := 186) hX dX10_seen_179 (by decide) (fun h179 => ?_) (fun h179 => ?_)
    · rw [if_neg h179] at hr
      refine V_iconst hX dX10_seen_186 ic_m1 ?_
      refine V_iadd hX dX10_seen_187 ?_
      refine V_istore hX dX10_seen_188 (Nat.le_of_ble_eq_true rfl) rfl ?_
      refine V_iinc hX dX10_seen_190 rfl (ii_1 _) (Nat.le_of_ble_eq_true rfl) rfl ?_
      refine V_goto (tgt := 22) hX dX10_seen_193 (by decide) ?_
      refine V_mask [true, true, true, true, true, true, false, false, false] ?_
      exact hk22 _ _ _ _ _ _ hr
    · rw [if_pos h179] at hr
      refine V_iconst hX dX10_seen_182 ic_1 ?_
      refine V_goto (tgt := 187) hX dX10_seen_183 (by decide) ?_
      refine V_iadd hX dX10_seen_187 ?_
      refine V_istore hX dX10_seen_188 (Nat.le_of_ble_eq_true rfl) rfl ?_
      refine V_iinc hX dX10_seen_190 rfl (ii_1 _) (Nat.le_of_ble_eq_true rfl) rfl ?_
      refine V_goto (tgt := 22) hX dX10_seen_193 (by decide) ?_
      refine V_mask [true, true, true, true, true, true, false, false, false] ?_
      exact hk22 _ _ _ _ _ _ hr
  · rw [if_neg h165] at hr
    refine V_iconst hX dX10_seen_168 ic_0 ?_
    refine V_goto (tgt := 187) hX dX10_seen_169 (by decide) ?_
    refine V_iadd hX dX10_seen_187 ?_
    refine V_istore hX dX10_seen_188 (Nat.le_of_ble_eq_true rfl) rfl ?_
    refine V_iinc hX dX10_seen_190 rfl (ii_1 _) (Nat.le_of_ble_eq_true rfl) rfl ?_
    refine V_goto (tgt := 22) hX dX10_seen_193 (by decide) ?_
    refine V_mask [true, true, true, true, true, true, false, false, false] ?_
    exact hk22 _ _ _ _ _ _ hr
set_option maxRecDepth 100000 in
set_option maxHeartbeats 4000000 in
theorem v_X10_seen_111 {d : Nat} (hd9 : 3 ≤ d) {X : bX} (hX : bOk cX10_seen 9 RX10 d X) {r : (Int32 × Wd)} (hE : bEnd (some .int) (some (.int r.1)) r.2 X) {k22 : Int32 → Int32 → Int32 → Int32 → Int32 → Wd → Option (Int32 × Wd)} {k47 : Int32 → Int32 → Int32 → Int32 → Int32 → Int32 → Int32 → Int32 → Wd → Option (Int32 × Wd)} (hk22 : ∀ (x1 : Int32) (x2 : Int32) (x3 : Int32) (x4 : Int32) (x5 : Int32) (w : Wd), k22 x1 x2 x3 x4 x5 w = some r → bV X 22 [some (.ref 33), some (.int x1), some (.int x2), some (.int x3), some (.int x4), some (.int x5), none, none, none] [] w) (hk47 : ∀ (x1 : Int32) (x2 : Int32) (x3 : Int32) (x4 : Int32) (x5 : Int32) (x6 : Int32) (x7 : Int32) (x8 : Int32) (w : Wd), k47 x1 x2 x3 x4 x5 x6 x7 x8 w = some r → bV X 47 [some (.ref 33), some (.int x1), some (.int x2), some (.int x3), some (.int x4), some (.int x5), some (.int x6), some (.int x7), some (.int x8)] [] w) : ∀ (x1 : Int32) (x2 : Int32) (x3 : Int32) (x4 : Int32) (x5 : Int32) (x6 : Int32) (x8 : Int32) (w : Wd), f_X10_seen_111 k22 k47 x1 x2 x3 x4 x5 x6 x8 w = some r → bV X 111 [some (.ref 33), some (.int x1), some (.int x2), some (.int x3), some (.int x4), some (.int x5), some (.int x6), none, some (.int x8)] [] w := by
  intro x1 x2 x3 x4 x5 x6 x8 w hr
  obtain ⟨d, rfl⟩ : ∃ e, d = e + 1 := ⟨d - 1, by omega⟩
  unfold f_X10_seen_111 at hr
  refine V_iconst hX dX10_seen_111 ic_1 ?_
  refine V_goto (tgt := 116) hX dX10_seen_112 (by decide) ?_
  refine V_istore hX dX10_seen_116 (Nat.le_of_ble_eq_true rfl) rfl ?_
  refine V_iinc hX dX10_seen_118 rfl (ii_1 _) (Nat.le_of_ble_eq_true rfl) rfl ?_
  refine V_goto (tgt := 47) hX dX10_seen_121 (by decide) ?_
  refine V_mask [true, true, true, true, true, true, true, true, true] ?_
  exact hk47 _ _ _ _ _ _ _ _ _ hr
set_option maxRecDepth 100000 in
set_option maxHeartbeats 4000000 in
theorem v_X10_seen_143 {d : Nat} (hd9 : 3 ≤ d) {X : bX} (hX : bOk cX10_seen 9 RX10 d X) {r : (Int32 × Wd)} (hE : bEnd (some .int) (some (.int r.1)) r.2 X) {k22 : Int32 → Int32 → Int32 → Int32 → Int32 → Wd → Option (Int32 × Wd)} (hk22 : ∀ (x1 : Int32) (x2 : Int32) (x3 : Int32) (x4 : Int32) (x5 : Int32) (w : Wd), k22 x1 x2 x3 x4 x5 w = some r → bV X 22 [some (.ref 33), some (.int x1), some (.int x2), some (.int x3), some (.int x4), some (.int x5), none, none, none] [] w) : ∀ (s0 : Int32) (s1 : Int32) (x1 : Int32) (x3 : Int32) (x4 : Int32) (x5 : Int32) (x6 : Int32) (x7 : Int32) (w : Wd), f_X10_seen_143 k22 s0 s1 x1 x3 x4 x5 x6 x7 w = some r → bV X 143 [some (.ref 33), some (.int x1), none, some (.int x3), some (.int x4), some (.int x5), some (.int x6), some (.int x7), none] [.int s1, .int s0] w := by
  intro s0 s1 x1 x3 x4 x5 x6 x7 w hr
  obtain ⟨d, rfl⟩ : ∃ e, d = e + 1 := ⟨d - 1, by omega⟩
  unfold f_X10_seen_143 at hr
  refine V_ior hX dX10_seen_143 ?_
  refine V_istore_n hX dX10_seen_144 rfl (Nat.le_of_ble_eq_true rfl) rfl ?_
  refine V_iload_n hX dX10_seen_145 rfl rfl ?_
  refine V_iload hX dX10_seen_146 rfl ?_
  refine V_if_eq (tgt := 158) hX dX10_seen_148 (by decide) (fun h148 => ?_) (fun h148 => ?_)
  · rw [if_pos h148] at hr
    refine V_iconst hX dX10_seen_158 ic_0 ?_
    refine V_mask [true, true, true, false, true, true, true, false, false] ?_
    exact v_X10_seen_159 hd9 hX hE hk22 _ _ _ _ _ _ _ _ hr
  · rw [if_neg h148] at hr
    refine V_iconst hX dX10_seen_151 ic_1 ?_
    refine V_iload hX dX10_seen_152 rfl ?_
    refine V_ishl hX dX10_seen_154 ?_
    refine V_goto (tgt := 159) hX dX10_seen_155 (by decide) ?_
    refine V_mask [true, true, true, false, true, true, true, false, false] ?_
    exact v_X10_seen_159 hd9 hX hE hk22 _ _ _ _ _ _ _ _ hr
set_option maxRecDepth 100000 in
set_option maxHeartbeats 4000000 in
theorem v_X10_seen_77 {d : Nat} (hd9 : 3 ≤ d) {X : bX} (hX : bOk cX10_seen 9 RX10 d X) {r : (Int32 × Wd)} (hE : bEnd (some .int) (some (.int r.1)) r.2 X) {k22 : Int32 → Int32 → Int32 → Int32 → Int32 → Wd → Option (Int32 × Wd)} {k47 : Int32 → Int32 → Int32 → Int32 → Int32 → Int32 → Int32 → Int32 → Wd → Option (Int32 × Wd)} (hk22 : ∀ (x1 : Int32) (x2 : Int32) (x3 : Int32) (x4 : Int32) (x5 : Int32) (w : Wd), k22 x1 x2 x3 x4 x5 w = some r → bV X 22 [some (.ref 33), some (.int x1), some (.int x2), some (.int x3), some (.int x4), some (.int x5), none, none, none] [] w) (hk47 : ∀ (x1 : Int32) (x2 : Int32) (x3 : Int32) (x4 : Int32) (x5 : Int32) (x6 : Int32) (x7 : Int32) (x8 : Int32) (w : Wd), k47 x1 x2 x3 x4 x5 x6 x7 x8 w = some r → bV X 47 [some (.ref 33), some (.int x1), some (.int x2), some (.int x3), some (.int x4), some (.int x5), some (.int x6), some (.int x7), some (.int x8)] [] w) : ∀ (s0 : Int32) (x1 : Int32) (x2 : Int32) (x3 : Int32) (x4 : Int32) (x5 : Int32) (x7 : Int32) (x8 : Int32) (w : Wd), f_X10_seen_77 k22 k47 s0 x1 x2 x3 x4 x5 x7 x8 w = some r → bV X 77 [some (.ref 33), some (.int x1), some (.int x2), some (.int x3), some (.int x4), some (.int x5), none, some (.int x7), some (.int x8)] [.int s0] w := by
  intro s0 x1 x2 x3 x4 x5 x7 x8 w hr
  obtain ⟨d, rfl⟩ : ∃ e, d = e + 1 := ⟨d - 1, by omega⟩
  unfold f_X10_seen_77 at hr
  refine V_istore hX dX10_seen_77 (Nat.le_of_ble_eq_true rfl) rfl ?_
  refine V_iload hX dX10_seen_79 rfl ?_
  refine V_if_ne (tgt := 111) hX dX10_seen_81 (by decide) (fun h81 => ?_) (fun h81 => ?_)
  · rw [if_neg h81] at hr
    refine V_mask [true, true, true, true, true, true, true, false, true] ?_
    exact v_X10_seen_111 hd9 hX hE hk22 hk47 _ _ _ _ _ _ _ _ hr
  · rw [if_pos h81] at hr
    refine V_aload_n hX dX10_seen_84 rfl rfl ?_
    refine V_iload hX dX10_seen_85 rfl ?_
    refine V_iload hX dX10_seen_87 rfl ?_
    obtain ⟨q1, hq1, hr⟩ := bnd hr
    refine C_RX10_297 hX (c_X10_doesShow (by omega) hq1) (Nat.le_of_ble_eq_true rfl) dX10_seen_89 ?_
    refine V_if_eq (tgt := 115) hX dX10_seen_92 (by decide) (fun h92 => ?_) (fun h92 => ?_)
    · rw [if_pos h92] at hr
      refine V_iconst hX dX10_seen_115 ic_0 ?_
      refine V_istore hX dX10_seen_116 (Nat.le_of_ble_eq_true rfl) rfl ?_
      refine V_iinc hX dX10_seen_118 rfl (ii_1 _) (Nat.le_of_ble_eq_true rfl) rfl ?_
      refine V_goto (tgt := 47) hX dX10_seen_121 (by decide) ?_
      refine V_mask [true, true, true, true, true, true, true, true, true] ?_
      exact hk47 _ _ _ _ _ _ _ _ _ hr
    · rw [if_neg h92] at hr
      refine V_aload_n hX dX10_seen_95 rfl rfl ?_
      refine G_RX10_83 hX dX10_seen_96 ?_
      refine V_iload hX dX10_seen_99 rfl ?_
      obtain ⟨hn101, hr⟩ := ifn hr
      refine V_iald hX (Nat.le_of_ble_eq_true rfl) lay_56 (inB_in hn101) dX10_seen_101 ?_
      refine V_iload hX dX10_seen_102 rfl ?_
      refine V_ishr hX dX10_seen_104 ?_
      refine V_iconst hX dX10_seen_105 ic_1 ?_
      refine V_iand hX dX10_seen_106 ?_
      refine V_iconst hX dX10_seen_107 ic_1 ?_
      refine V_icmp_ne (tgt := 115) hX dX10_seen_108 (by decide) (fun h108 => ?_) (fun h108 => ?_)
      · rw [if_neg h108] at hr
        refine V_iconst hX dX10_seen_115 ic_0 ?_
        refine V_istore hX dX10_seen_116 (Nat.le_of_ble_eq_true rfl) rfl ?_
        refine V_iinc hX dX10_seen_118 rfl (ii_1 _) (Nat.le_of_ble_eq_true rfl) rfl ?_
        refine V_goto (tgt := 47) hX dX10_seen_121 (by decide) ?_
        refine V_mask [true, true, true, true, true, true, true, true, true] ?_
        exact hk47 _ _ _ _ _ _ _ _ _ hr
      · rw [if_pos h108] at hr
        refine V_mask [true, true, true, true, true, true, true, false, true] ?_
        exact v_X10_seen_111 hd9 hX hE hk22 hk47 _ _ _ _ _ _ _ _ hr
set_option maxRecDepth 100000 in
set_option maxHeartbeats 4000000 in
theorem v_X10_seen_142 {d : Nat} (hd9 : 3 ≤ d) {X : bX} (hX : bOk cX10_seen 9 RX10 d X) {r : (Int32 × Wd)} (hE : bEnd (some .int) (some (.int r.1)) r.2 X) {k22 : Int32 → Int32 → Int32 → Int32 → Int32 → Wd → Option (Int32 × Wd)} (hk22 : ∀ (x1 : Int32) (x2 : Int32) (x3 : Int32) (x4 : Int32) (x5 : Int32) (w : Wd), k22 x1 x2 x3 x4 x5 w = some r → bV X 22 [some (.ref 33), some (.int x1), some (.int x2), some (.int x3), some (.int x4), some (.int x5), none, none, none] [] w) : ∀ (s0 : Int32) (x1 : Int32) (x3 : Int32) (x4 : Int32) (x5 : Int32) (x6 : Int32) (x7 : Int32) (w : Wd), f_X10_seen_142 k22 s0 x1 x3 x4 x5 x6 x7 w = some r → bV X 142 [some (.ref 33), some (.int x1), none, some (.int x3), some (.int x4), some (.int x5), some (.int x6), some (.int x7), none] [.int s0] w := by
  intro s0 x1 x3 x4 x5 x6 x7 w hr
  obtain ⟨d, rfl⟩ : ∃ e, d = e + 1 := ⟨d - 1, by omega⟩
  unfold f_X10_seen_142 at hr
  refine V_iconst hX dX10_seen_142 ic_0 ?_
  refine V_mask [true, true, false, true, true, true, true, true, false] ?_
  exact v_X10_seen_143 hd9 hX hE hk22 _ _ _ _ _ _ _ _ _ hr
set_option maxRecDepth 100000 in
set_option maxHeartbeats 4000000 in
theorem v_X10_seen_72 {d : Nat} (hd9 : 3 ≤ d) {X : bX} (hX : bOk cX10_seen 9 RX10 d X) {r : (Int32 × Wd)} (hE : bEnd (some .int) (some (.int r.1)) r.2 X) {k22 : Int32 → Int32 → Int32 → Int32 → Int32 → Wd → Option (Int32 × Wd)} {k47 : Int32 → Int32 → Int32 → Int32 → Int32 → Int32 → Int32 → Int32 → Wd → Option (Int32 × Wd)} (hk22 : ∀ (x1 : Int32) (x2 : Int32) (x3 : Int32) (x4 : Int32) (x5 : Int32) (w : Wd), k22 x1 x2 x3 x4 x5 w = some r → bV X 22 [some (.ref 33), some (.int x1), some (.int x2), some (.int x3), some (.int x4), some (.int x5), none, none, none] [] w) (hk47 : ∀ (x1 : Int32) (x2 : Int32) (x3 : Int32) (x4 : Int32) (x5 : Int32) (x6 : Int32) (x7 : Int32) (x8 : Int32) (w : Wd), k47 x1 x2 x3 x4 x5 x6 x7 x8 w = some r → bV X 47 [some (.ref 33), some (.int x1), some (.int x2), some (.int x3), some (.int x4), some (.int x5), some (.int x6), some (.int x7), some (.int x8)] [] w) : ∀ (x1 : Int32) (x2 : Int32) (x3 : Int32) (x4 : Int32) (x5 : Int32) (x7 : Int32) (x8 : Int32) (w : Wd), f_X10_seen_72 k22 k47 x1 x2 x3 x4 x5 x7 x8 w = some r → bV X 72 [some (.ref 33), some (.int x1), some (.int x2), some (.int x3), some (.int x4), some (.int x5), none, some (.int x7), some (.int x8)] [] w := by
  intro x1 x2 x3 x4 x5 x7 x8 w hr
  obtain ⟨d, rfl⟩ : ∃ e, d = e + 1 := ⟨d - 1, by omega⟩
  unfold f_X10_seen_72 at hr
  refine V_iconst hX dX10_seen_72 ic_1 ?_
  refine V_goto (tgt := 77) hX dX10_seen_73 (by decide) ?_
  refine V_mask [true, true, true, true, true, true, false, true, true] ?_
  exact v_X10_seen_77 hd9 hX hE hk22 hk47 _ _ _ _ _ _ _ _ _ hr
set_option maxRecDepth 100000 in
set_option maxHeartbeats 4000000 in
theorem v_X10_seen_47 {d : Nat} (hd9 : 3 ≤ d) {X : bX} (hX : bOk cX10_seen 9 RX10 d X) {r : (Int32 × Wd)} (hE : bEnd (some .int) (some (.int r.1)) r.2 X) {k22 : Int32 → Int32 → Int32 → Int32 → Int32 → Wd → Option (Int32 × Wd)} (hk22 : ∀ (x1 : Int32) (x2 : Int32) (x3 : Int32) (x4 : Int32) (x5 : Int32) (w : Wd), k22 x1 x2 x3 x4 x5 w = some r → bV X 22 [some (.ref 33), some (.int x1), some (.int x2), some (.int x3), some (.int x4), some (.int x5), none, none, none] [] w) : ∀ (n : Nat) (x1 : Int32) (x2 : Int32) (x3 : Int32) (x4 : Int32) (x5 : Int32) (x6 : Int32) (x7 : Int32) (x8 : Int32) (w : Wd), f_X10_seen_47 k22 n x1 x2 x3 x4 x5 x6 x7 x8 w = some r → bV X 47 [some (.ref 33), some (.int x1), some (.int x2), some (.int x3), some (.int x4), some (.int x5), some (.int x6), some (.int x7), some (.int x8)] [] w := by
  obtain ⟨d, rfl⟩ : ∃ e, d = e + 1 := ⟨d - 1, by omega⟩
  intro n
  induction n with
  | zero => intro x1 x2 x3 x4 x5 x6 x7 x8 w hr; exact absurd hr (by simp [f_X10_seen_47])
  | succ n ih =>
    intro x1 x2 x3 x4 x5 x6 x7 x8 w hr
    rw [f_X10_seen_47] at hr
    refine V_iload hX dX10_seen_47 rfl ?_
    refine V_aload_n hX dX10_seen_49 rfl rfl ?_
    refine G_RX10_294 hX dX10_seen_50 ?_
    refine V_icmp_ge (tgt := 124) hX dX10_seen_53 (by decide) (fun h53 => ?_) (fun h53 => ?_)
    · rw [if_pos h53] at hr
      refine V_iload_n hX dX10_seen_124 rfl rfl ?_
      refine V_iload hX dX10_seen_125 rfl ?_
      refine V_if_eq (tgt := 142) hX dX10_seen_127 (by decide) (fun h127 => ?_) (fun h127 => ?_)
      · rw [if_pos h127] at hr
        refine V_mask [true, true, false, true, true, true, true, true, false] ?_
        exact v_X10_seen_142 hd9 hX hE hk22 _ _ _ _ _ _ _ _ hr
      · rw [if_neg h127] at hr
        refine V_iload hX dX10_seen_130 rfl ?_
        refine V_if_ne (tgt := 142) hX dX10_seen_132 (by decide) (fun h132 => ?_) (fun h132 => ?_)
        · rw [if_neg h132] at hr
          refine V_mask [true, true, false, true, true, true, true, true, false] ?_
          exact v_X10_seen_142 hd9 hX hE hk22 _ _ _ _ _ _ _ _ hr
        · rw [if_pos h132] at hr
          refine V_iconst hX dX10_seen_135 ic_1 ?_
          refine V_iload hX dX10_seen_136 rfl ?_
          refine V_ishl hX dX10_seen_138 ?_
          refine V_goto (tgt := 143) hX dX10_seen_139 (by decide) ?_
          refine V_mask [true, true, false, true, true, true, true, true, false] ?_
          exact v_X10_seen_143 hd9 hX hE hk22 _ _ _ _ _ _ _ _ _ hr
    · rw [if_neg h53] at hr
      refine V_iload hX dX10_seen_56 rfl ?_
      refine V_if_ne (tgt := 72) hX dX10_seen_58 (by decide) (fun h58 => ?_) (fun h58 => ?_)
      · rw [if_neg h58] at hr
        refine V_mask [true, true, true, true, true, true, false, true, true] ?_
        exact v_X10_seen_72 hd9 hX hE hk22 ih _ _ _ _ _ _ _ _ hr
      · rw [if_pos h58] at hr
        refine V_aload_n hX dX10_seen_61 rfl rfl ?_
        refine V_iload hX dX10_seen_62 rfl ?_
        refine V_iload hX dX10_seen_64 rfl ?_
        obtain ⟨q1, hq1, hr⟩ := bnd hr
        refine C_RX10_297 hX (c_X10_doesShow (by omega) hq1) (Nat.le_of_ble_eq_true rfl) dX10_seen_66 ?_
        refine V_if_eq (tgt := 76) hX dX10_seen_69 (by decide) (fun h69 => ?_) (fun h69 => ?_)
        · rw [if_pos h69] at hr
          refine V_iconst hX dX10_seen_76 ic_0 ?_
          refine V_mask [true, true, true, true, true, true, false, true, true] ?_
          exact v_X10_seen_77 hd9 hX hE hk22 ih _ _ _ _ _ _ _ _ _ hr
        · rw [if_neg h69] at hr
          refine V_mask [true, true, true, true, true, true, false, true, true] ?_
          exact v_X10_seen_72 hd9 hX hE hk22 ih _ _ _ _ _ _ _ _ hr
set_option maxRecDepth 100000 in
set_option maxHeartbeats 4000000 in
theorem v_X10_seen_22 {d : Nat} (hd9 : 3 ≤ d) {X : bX} (hX : bOk cX10_seen 9 RX10 d X) {r : (Int32 × Wd)} (hE : bEnd (some .int) (some (.int r.1)) r.2 X) : ∀ (n : Nat) (x1 : Int32) (x2 : Int32) (x3 : Int32) (x4 : Int32) (x5 : Int32) (w : Wd), f_X10_seen_22 n x1 x2 x3 x4 x5 w = some r → bV X 22 [some (.ref 33), some (.int x1), some (.int x2), some (.int x3), some (.int x4), some (.int x5), none, none, none] [] w := by
  obtain ⟨d, rfl⟩ : ∃ e, d = e + 1 := ⟨d - 1, by omega⟩
  intro n
  induction n with
  | zero => intro x1 x2 x3 x4 x5 w hr; exact absurd hr (by simp [f_X10_seen_22])
  | succ n ih =>
    intro x1 x2 x3 x4 x5 w hr
    rw [f_X10_seen_22] at hr
    refine V_iload hX dX10_seen_22 rfl ?_
    refine V_bipush hX dX10_seen_24 bp_8 ?_
    refine V_icmp_ge (tgt := 196) hX dX10_seen_26 (by decide) (fun h26 => ?_) (fun h26 => ?_)
    · rw [if_pos h26] at hr
      refine V_iload_n hX dX10_seen_196 rfl rfl ?_
      refine V_if_ne (tgt := 204) hX dX10_seen_197 (by decide) (fun h197 => ?_) (fun h197 => ?_)
      · rw [if_neg h197] at hr
        refine V_iload_n hX dX10_seen_204 rfl rfl ?_
        refine V_iconst hX dX10_seen_205 ic_1 ?_
        refine V_icmp_ne (tgt := 213) hX dX10_seen_206 (by decide) (fun h206 => ?_) (fun h206 => ?_)
        · rw [if_neg h206] at hr
          refine V_iload hX dX10_seen_213 rfl ?_
          refine V_if_le (tgt := 222) hX dX10_seen_215 (by decide) (fun h215 => ?_) (fun h215 => ?_)
          · rw [if_pos h215] at hr
            refine V_iconst hX dX10_seen_222 ic_0 ?_
            cases hr
            exact V_iret hX hE rfl dX10_seen_223
          · rw [if_neg h215] at hr
            refine V_iconst hX dX10_seen_218 ic_1 ?_
            refine V_goto (tgt := 223) hX dX10_seen_219 (by decide) ?_
            cases hr
            exact V_iret hX hE rfl dX10_seen_223
        · rw [if_pos h206] at hr
          refine V_iload_n hX dX10_seen_209 rfl rfl ?_
          refine V_goto (tgt := 223) hX dX10_seen_210 (by decide) ?_
          cases hr
          exact V_iret hX hE rfl dX10_seen_223
      · rw [if_pos h197] at hr
        refine V_iload_n hX dX10_seen_200 rfl rfl ?_
        refine V_goto (tgt := 223) hX dX10_seen_201 (by decide) ?_
        cases hr
        exact V_iret hX hE rfl dX10_seen_223
    · rw [if_neg h26] at hr
      refine V_aload_n hX dX10_seen_29 rfl rfl ?_
      refine V_iload hX dX10_seen_30 rfl ?_
      obtain ⟨q1, hq1, hr⟩ := bnd hr
      refine C_RX10_205 hX (c_X10_isBundle (by omega) hq1) (Nat.le_of_ble_eq_true rfl) dX10_seen_32 ?_
      refine V_if_eq (tgt := 190) hX dX10_seen_35 (by decide) (fun h35 => ?_) (fun h35 => ?_)
      · rw [if_pos h35] at hr
        refine V_iinc hX dX10_seen_190 rfl (ii_1 _) (Nat.le_of_ble_eq_true rfl) rfl ?_
        refine V_goto (tgt := 22) hX dX10_seen_193 (by decide) ?_
        refine V_mask [true, true, true, true, true, true, false, false, false] ?_
        exact ih _ _ _ _ _ _ hr
      · rw [if_neg h35] at hr
        refine V_iconst hX dX10_seen_38 ic_0 ?_
        refine V_istore hX dX10_seen_39 (Nat.le_of_ble_eq_true rfl) rfl ?_
        refine V_iconst hX dX10_seen_41 ic_0 ?_
        refine V_istore hX dX10_seen_42 (Nat.le_of_ble_eq_true rfl) rfl ?_
        refine V_iconst hX dX10_seen_44 ic_0 ?_
        refine V_istore hX dX10_seen_45 (Nat.le_of_ble_eq_true rfl) rfl ?_
        refine V_mask [true, true, true, true, true, true, true, true, true] ?_
        exact v_X10_seen_47 hd9 hX hE ih _ _ _ _ _ _ _ _ _ _ hr
set_option maxRecDepth 100000 in
set_option maxHeartbeats 4000000 in
theorem c_X10_seen {d : Nat} (hd9 : 3 ≤ d) {p0 : Int32} {w : Wd} {r : (Int32 × Wd)} (hr : f_X10_seen p0 w = some r) : Con d yX10_seen cX10_seen 9 (some .int) [.ref 33, .int p0] w (some (.int r.1)) r.2 := by
  refine Con_of (by decide) (Nat.le_of_ble_eq_true rfl) (fun X hX hE => ?_)
  have hX : bOk cX10_seen 9 RX10 d X := hX
  show bV X 0 [some (.ref 33), some (.int p0), none, none, none, none, none, none, none] [] w
  obtain ⟨d, rfl⟩ : ∃ e, d = e + 1 := ⟨d - 1, by omega⟩
  unfold f_X10_seen at hr
  refine V_iload_n hX dX10_seen_0 rfl rfl ?_
  refine V_iconst hX dX10_seen_1 ic_0 ?_
  refine V_iconst hX dX10_seen_2 ic_2 ?_
  obtain ⟨q1, hq1, hr⟩ := bnd hr
  refine C_RX10_86 hX (c_X10_in (by omega) hq1) (Nat.le_of_ble_eq_true rfl) dX10_seen_3 ?_
  refine V_if_ne (tgt := 12) hX dX10_seen_6 (by decide) (fun h6 => ?_) (fun h6 => ?_)
  · rw [if_neg h6] at hr
    refine V_iconst hX dX10_seen_12 ic_0 ?_
    refine V_istore_n hX dX10_seen_13 rfl (Nat.le_of_ble_eq_true rfl) rfl ?_
    refine V_iconst hX dX10_seen_14 ic_0 ?_
    refine V_istore_n hX dX10_seen_15 rfl (Nat.le_of_ble_eq_true rfl) rfl ?_
    refine V_iconst hX dX10_seen_16 ic_0 ?_
    refine V_istore hX dX10_seen_17 (Nat.le_of_ble_eq_true rfl) rfl ?_
    refine V_iconst hX dX10_seen_19 ic_0 ?_
    refine V_istore hX dX10_seen_20 (Nat.le_of_ble_eq_true rfl) rfl ?_
    refine V_mask [true, true, true, true, true, true, false, false, false] ?_
    exact v_X10_seen_22 hd9 hX hE _ _ _ _ _ _ _ hr
  · rw [if_pos h6] at hr
    refine V_bipush hX dX10_seen_9 bp_m3 ?_
    cases hr
    exact V_iret hX hE rfl dX10_seen_11
def f_X10_count_97 : Nat → Int32 → Int32 → Wd → Option (Int32 × Wd)
  | 0, _, _, _ => none
  | n + 1, x2, x3, w => if 5 ≤ x3 then
        (some (x2, w))
      else
        (if inB x3 5 then (if (w.1 49 (ix x3)) ≤ 0 then
          (f_X10_count_97 n (x2 + 0) (x3 + 1) w)
        else
          (f_X10_count_97 n (x2 + 1) (x3 + 1) w)) else none)
def f_X10_count (p0 : Int32) (w : Wd) : Option (Int32 × Wd) := if p0 = 0 then
      (Option.bind (f_X10_bits ((w.1 33 0) &&& 255) w) fun q1 =>
      some (q1.1, q1.2))
    else if p0 = 1 then
      (Option.bind (f_X10_bits (jshr (w.1 33 0) 8) w) fun q1 =>
      some (q1.1, q1.2))
    else if p0 = 2 then
      (some ((w.1 33 8), w))
    else if p0 = 3 then
      (Option.bind (f_X10_bits (w.1 33 11) w) fun q1 =>
      some (q1.1, q1.2))
    else if p0 = 4 then
      (some ((w.1 33 15), w))
    else if p0 = 5 then
      (f_X10_count_97 fu 0 0 w)
    else if p0 = 6 then
      (some ((w.1 33 35), w))
    else if p0 = 7 then
      (some ((w.1 33 13), w))
    else if p0 = 8 then
      (some ((w.1 33 14), w))
    else (some ((-3), w))
set_option maxRecDepth 100000 in
set_option maxHeartbeats 4000000 in
theorem v_X10_count_97 {d : Nat} (hd9 : 1 ≤ d) {X : bX} (hX : bOk cX10_count 4 RX10 d X) {r : (Int32 × Wd)} (hE : bEnd (some .int) (some (.int r.1)) r.2 X) : ∀ (n : Nat) (x2 : Int32) (x3 : Int32) (w : Wd), f_X10_count_97 n x2 x3 w = some r → bV X 97 [some (.ref 33), none, some (.int x2), some (.int x3)] [] w := by
  obtain ⟨d, rfl⟩ : ∃ e, d = e + 1 := ⟨d - 1, by omega⟩
  intro n
  induction n with
  | zero => intro x2 x3 w hr; exact absurd hr (by simp [f_X10_count_97])
  | succ n ih =>
    intro x2 x3 w hr
    rw [f_X10_count_97] at hr
    refine V_iload_n hX dX10_count_97 rfl rfl ?_
    refine V_iconst hX dX10_count_98 ic_5 ?_
    refine V_icmp_ge (tgt := 125) hX dX10_count_99 (by decide) (fun h99 => ?_) (fun h99 => ?_)
    · rw [if_pos h99] at hr
      refine V_iload_n hX dX10_count_125 rfl rfl ?_
      cases hr
      exact V_iret hX hE rfl dX10_count_126
    · rw [if_neg h99] at hr
      refine V_iload_n hX dX10_count_102 rfl rfl ?_
      refine V_aload_n hX dX10_count_103 rfl rfl ?_
      refine G_RX10_62 hX dX10_count_104 ?_
      refine V_iload_n hX dX10_count_107 rfl rfl ?_
      obtain ⟨hn108, hr⟩ := ifn hr
      refine V_iald hX (Nat.le_of_ble_eq_true rfl) lay_49 (inB_in hn108) dX10_count_108 ?_
      refine V_if_le (tgt := 116) hX dX10_count_109 (by decide) (fun h109 => ?_) (fun h109 => ?_)
      · rw [if_pos h109] at hr
        refine V_iconst hX dX10_count_116 ic_0 ?_
        refine V_iadd hX dX10_count_117 ?_
        refine V_istore_n hX dX10_count_118 rfl (Nat.le_of_ble_eq_true rfl) rfl ?_
        refine V_iinc hX dX10_count_119 rfl (ii_1 _) (Nat.le_of_ble_eq_true rfl) rfl ?_
        refine V_goto (tgt := 97) hX dX10_count_122 (by decide) ?_
        refine V_mask [true, false, true, true] ?_
        exact ih _ _ _ hr
      · rw [if_neg h109] at hr
        refine V_iconst hX dX10_count_112 ic_1 ?_
        refine V_goto (tgt := 117) hX dX10_count_113 (by decide) ?_
        refine V_iadd hX dX10_count_117 ?_
        refine V_istore_n hX dX10_count_118 rfl (Nat.le_of_ble_eq_true rfl) rfl ?_
        refine V_iinc hX dX10_count_119 rfl (ii_1 _) (Nat.le_of_ble_eq_true rfl) rfl ?_
        refine V_goto (tgt := 97) hX dX10_count_122 (by decide) ?_
        refine V_mask [true, false, true, true] ?_
        exact ih _ _ _ hr
set_option maxRecDepth 100000 in
set_option maxHeartbeats 4000000 in
theorem c_X10_count {d : Nat} (hd9 : 1 ≤ d) {p0 : Int32} {w : Wd} {r : (Int32 × Wd)} (hr : f_X10_count p0 w = some r) : Con d yX10_count cX10_count 4 (some .int) [.ref 33, .int p0] w (some (.int r.1)) r.2 := by
  refine Con_of (by decide) (Nat.le_of_ble_eq_true rfl) (fun X hX hE => ?_)
  have hX : bOk cX10_count 4 RX10 d X := hX
  show bV X 0 [some (.ref 33), some (.int p0), none, none] [] w
  obtain ⟨d, rfl⟩ : ∃ e, d = e + 1 := ⟨d - 1, by omega⟩
  unfold f_X10_count at hr
  refine V_iload_n hX dX10_count_0 rfl rfl ?_
  by_cases hs0 : p0 = 0
  · rw [if_pos hs0] at hr
    refine V_tableIn (tgt := 52) hX dX10_count_1 (by rw [hs0]; decide) (by rw [hs0]; decide) (by rw [hs0]; rfl) (by decide) ?_
    refine V_aload_n hX dX10_count_52 rfl rfl ?_
    refine G_RX10_90 hX dX10_count_53 ?_
    refine V_sipush hX dX10_count_56 sp_255 ?_
    refine V_iand hX dX10_count_59 ?_
    obtain ⟨q1, hq1, hr⟩ := bnd hr
    refine C_RX10_300 hX (c_X10_bits (by omega) hq1) (Nat.le_of_ble_eq_true rfl) dX10_count_60 ?_
    cases hr
    exact V_iret hX hE rfl dX10_count_63
  rw [if_neg hs0] at hr
  by_cases hs1 : p0 = 1
  · rw [if_pos hs1] at hr
    refine V_tableIn (tgt := 64) hX dX10_count_1 (by rw [hs1]; decide) (by rw [hs1]; decide) (by rw [hs1]; rfl) (by decide) ?_
    refine V_aload_n hX dX10_count_64 rfl rfl ?_
    refine G_RX10_90 hX dX10_count_65 ?_
    refine V_bipush hX dX10_count_68 bp_8 ?_
    refine V_ishr hX dX10_count_70 ?_
    obtain ⟨q1, hq1, hr⟩ := bnd hr
    refine C_RX10_300 hX (c_X10_bits (by omega) hq1) (Nat.le_of_ble_eq_true rfl) dX10_count_71 ?_
    cases hr
    exact V_iret hX hE rfl dX10_count_74
  rw [if_neg hs1] at hr
  by_cases hs2 : p0 = 2
  · rw [if_pos hs2] at hr
    refine V_tableIn (tgt := 75) hX dX10_count_1 (by rw [hs2]; decide) (by rw [hs2]; decide) (by rw [hs2]; rfl) (by decide) ?_
    refine V_aload_n hX dX10_count_75 rfl rfl ?_
    refine G_RX10_196 hX dX10_count_76 ?_
    cases hr
    exact V_iret hX hE rfl dX10_count_79
  rw [if_neg hs2] at hr
  by_cases hs3 : p0 = 3
  · rw [if_pos hs3] at hr
    refine V_tableIn (tgt := 80) hX dX10_count_1 (by rw [hs3]; decide) (by rw [hs3]; decide) (by rw [hs3]; rfl) (by decide) ?_
    refine V_aload_n hX dX10_count_80 rfl rfl ?_
    refine G_RX10_199 hX dX10_count_81 ?_
    obtain ⟨q1, hq1, hr⟩ := bnd hr
    refine C_RX10_300 hX (c_X10_bits (by omega) hq1) (Nat.le_of_ble_eq_true rfl) dX10_count_84 ?_
    cases hr
    exact V_iret hX hE rfl dX10_count_87
  rw [if_neg hs3] at hr
  by_cases hs4 : p0 = 4
  · rw [if_pos hs4] at hr
    refine V_tableIn (tgt := 88) hX dX10_count_1 (by rw [hs4]; decide) (by rw [hs4]; decide) (by rw [hs4]; rfl) (by decide) ?_
    refine V_aload_n hX dX10_count_88 rfl rfl ?_
    refine G_RX10_97 hX dX10_count_89 ?_
    cases hr
    exact V_iret hX hE rfl dX10_count_92
  rw [if_neg hs4] at hr
  by_cases hs5 : p0 = 5
  · rw [if_pos hs5] at hr
    refine V_tableIn (tgt := 93) hX dX10_count_1 (by rw [hs5]; decide) (by rw [hs5]; decide) (by rw [hs5]; rfl) (by decide) ?_
    refine V_iconst hX dX10_count_93 ic_0 ?_
    refine V_istore_n hX dX10_count_94 rfl (Nat.le_of_ble_eq_true rfl) rfl ?_
    refine V_iconst hX dX10_count_95 ic_0 ?_
    refine V_istore_n hX dX10_count_96 rfl (Nat.le_of_ble_eq_true rfl) rfl ?_
    refine V_mask [true, false, true, true] ?_
    exact v_X10_count_97 hd9 hX hE _ _ _ _ hr
  rw [if_neg hs5] at hr
  by_cases hs6 : p0 = 6
  · rw [if_pos hs6] at hr
    refine V_tableIn (tgt := 127) hX dX10_count_1 (by rw [hs6]; decide) (by rw [hs6]; decide) (by rw [hs6]; rfl) (by decide) ?_
    refine V_aload_n hX dX10_count_127 rfl rfl ?_
    refine G_RX10_294 hX dX10_count_128 ?_
    cases hr
    exact V_iret hX hE rfl dX10_count_131
  rw [if_neg hs6] at hr
  by_cases hs7 : p0 = 7
  · rw [if_pos hs7] at hr
    refine V_tableIn (tgt := 132) hX dX10_count_1 (by rw [hs7]; decide) (by rw [hs7]; decide) (by rw [hs7]; rfl) (by decide) ?_
    refine V_aload_n hX dX10_count_132 rfl rfl ?_
    refine G_RX10_40 hX dX10_count_133 ?_
    cases hr
    exact V_iret hX hE rfl dX10_count_136
  rw [if_neg hs7] at hr
  by_cases hs8 : p0 = 8
  · rw [if_pos hs8] at hr
    refine V_tableIn (tgt := 137) hX dX10_count_1 (by rw [hs8]; decide) (by rw [hs8]; decide) (by rw [hs8]; rfl) (by decide) ?_
    refine V_aload_n hX dX10_count_137 rfl rfl ?_
    refine G_RX10_44 hX dX10_count_138 ?_
    cases hr
    exact V_iret hX hE rfl dX10_count_141
  rw [if_neg hs8] at hr
  refine V_tableOut (tgt := 142) hX dX10_count_1 (tb_out 8 (fun j hj => by rcases (show j = 0 ∨ j = 1 ∨ j = 2 ∨ j = 3 ∨ j = 4 ∨ j = 5 ∨ j = 6 ∨ j = 7 ∨ j = 8 by omega) with rfl | rfl | rfl | rfl | rfl | rfl | rfl | rfl | rfl <;> assumption)) (by decide) ?_
  refine V_bipush hX dX10_count_142 bp_m3 ?_
  cases hr
  exact V_iret hX hE rfl dX10_count_144
