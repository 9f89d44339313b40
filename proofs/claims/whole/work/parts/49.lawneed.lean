theorem ii_4 (x : Int32) : x + Int32.ofInt (4) = x + 4 := rfl
theorem lc_RL_13 : inGd (.constantLong RL 13 4294967295) = true := by decide +kernel
theorem md_X9_bundle : mdOk yX9_bundle 2 = true := by decide +kernel
theorem co_X9_bundle : inGd (.code yX9_bundle cX9_bundle 3 (some .int)) = true := by decide +kernel
theorem iv_X9_bundle : ivOk yX9_bundle = true := by decide +kernel
theorem md_X9_count : mdOk yX9_count 1 = true := by decide +kernel
theorem co_X9_count : inGd (.code yX9_count cX9_count 2 (some .int)) = true := by decide +kernel
theorem iv_X9_count : ivOk yX9_count = true := by decide +kernel
theorem md_X9_covers : mdOk yX9_covers 2 = true := by decide +kernel
theorem co_X9_covers : inGd (.code yX9_covers cX9_covers 3 (some .int)) = true := by decide +kernel
theorem iv_X9_covers : ivOk yX9_covers = true := by decide +kernel
theorem md_X9_erase : mdOk yX9_erase 0 = true := by decide +kernel
theorem co_X9_erase : inGd (.code yX9_erase cX9_erase 2 (some .int)) = true := by decide +kernel
theorem iv_X9_erase : ivOk yX9_erase = true := by decide +kernel
theorem md_X9_fault : mdOk yX9_fault 0 = true := by decide +kernel
theorem co_X9_fault : inGd (.code yX9_fault cX9_fault 1 (some .int)) = true := by decide +kernel
theorem iv_X9_fault : ivOk yX9_fault = true := by decide +kernel
theorem md_X9_field : mdOk yX9_field 2 = true := by decide +kernel
theorem co_X9_field : inGd (.code yX9_field cX9_field 4 (some .int)) = true := by decide +kernel
theorem iv_X9_field : ivOk yX9_field = true := by decide +kernel
theorem md_X9_fields : mdOk yX9_fields 0 = true := by decide +kernel
theorem co_X9_fields : inGd (.code yX9_fields cX9_fields 1 (some .int)) = true := by decide +kernel
theorem iv_X9_fields : ivOk yX9_fields = true := by decide +kernel
theorem md_X9_given : mdOk yX9_given 1 = true := by decide +kernel
theorem co_X9_given : inGd (.code yX9_given cX9_given 2 (some .int)) = true := by decide +kernel
theorem iv_X9_given : ivOk yX9_given = true := by decide +kernel
theorem md_X9_holder : mdOk yX9_holder 2 = true := by decide +kernel
theorem co_X9_holder : inGd (.code yX9_holder cX9_holder 3 (some .int)) = true := by decide +kernel
theorem iv_X9_holder : ivOk yX9_holder = true := by decide +kernel
theorem md_X9_joined : mdOk yX9_joined 2 = true := by decide +kernel
theorem co_X9_joined : inGd (.code yX9_joined cX9_joined 3 (some .int)) = true := by decide +kernel
theorem iv_X9_joined : ivOk yX9_joined = true := by decide +kernel
theorem md_X9_later : mdOk yX9_later 2 = true := by decide +kernel
theorem co_X9_later : inGd (.code yX9_later cX9_later 3 (some .int)) = true := by decide +kernel
theorem iv_X9_later : ivOk yX9_later = true := by decide +kernel
theorem md_X9_odds : mdOk yX9_odds 3 = true := by decide +kernel
theorem co_X9_odds : inGd (.code yX9_odds cX9_odds 4 (some .int)) = true := by decide +kernel
theorem iv_X9_odds : ivOk yX9_odds = true := by decide +kernel
theorem md_X9_over : mdOk yX9_over 2 = true := by decide +kernel
theorem co_X9_over : inGd (.code yX9_over cX9_over 3 (some .int)) = true := by decide +kernel
theorem iv_X9_over : ivOk yX9_over = true := by decide +kernel
theorem md_X9_parish : mdOk yX9_parish 0 = true := by decide +kernel
theorem co_X9_parish : inGd (.code yX9_parish cX9_parish 2 (some .int)) = true := by decide +kernel
theorem iv_X9_parish : ivOk yX9_parish = true := by decide +kernel
theorem md_X9_peak : mdOk yX9_peak 1 = true := by decide +kernel
theorem co_X9_peak : inGd (.code yX9_peak cX9_peak 3 (some .int)) = true := by decide +kernel
theorem iv_X9_peak : ivOk yX9_peak = true := by decide +kernel
theorem md_X9_picture : mdOk yX9_picture 3 = true := by decide +kernel
theorem co_X9_picture : inGd (.code yX9_picture cX9_picture 4 (some .int)) = true := by decide +kernel
theorem iv_X9_picture : ivOk yX9_picture = true := by decide +kernel
theorem md_X9_ploughed : mdOk yX9_ploughed 2 = true := by decide +kernel
theorem co_X9_ploughed : inGd (.code yX9_ploughed cX9_ploughed 3 (some .int)) = true := by decide +kernel
theorem iv_X9_ploughed : ivOk yX9_ploughed = true := by decide +kernel
theorem md_X9_ring : mdOk yX9_ring 0 = true := by decide +kernel
theorem co_X9_ring : inGd (.code yX9_ring cX9_ring 1 (some .int)) = true := by decide +kernel
theorem iv_X9_ring : ivOk yX9_ring = true := by decide +kernel
theorem md_X9_round : mdOk yX9_round 0 = true := by decide +kernel
theorem co_X9_round : inGd (.code yX9_round cX9_round 1 (some .int)) = true := by decide +kernel
theorem iv_X9_round : ivOk yX9_round = true := by decide +kernel
theorem md_X9_seen : mdOk yX9_seen 1 = true := by decide +kernel
theorem co_X9_seen : inGd (.code yX9_seen cX9_seen 2 (some .int)) = true := by decide +kernel
theorem iv_X9_seen : ivOk yX9_seen = true := by decide +kernel
theorem md_X9_shows : mdOk yX9_shows 2 = true := by decide +kernel
theorem co_X9_shows : inGd (.code yX9_shows cX9_shows 3 (some .int)) = true := by decide +kernel
theorem iv_X9_shows : ivOk yX9_shows = true := by decide +kernel
theorem md_X9_span : mdOk yX9_span 2 = true := by decide +kernel
theorem co_X9_span : inGd (.code yX9_span cX9_span 3 (some .int)) = true := by decide +kernel
theorem iv_X9_span : ivOk yX9_span = true := by decide +kernel
theorem md_X9_stack : mdOk yX9_stack 1 = true := by decide +kernel
theorem co_X9_stack : inGd (.code yX9_stack cX9_stack 2 (some .int)) = true := by decide +kernel
theorem iv_X9_stack : ivOk yX9_stack = true := by decide +kernel
theorem md_X9_teams : mdOk yX9_teams 1 = true := by decide +kernel
theorem co_X9_teams : inGd (.code yX9_teams cX9_teams 2 (some .int)) = true := by decide +kernel
theorem iv_X9_teams : ivOk yX9_teams = true := by decide +kernel
theorem md_X9_terrier : mdOk yX9_terrier 3 = true := by decide +kernel
theorem co_X9_terrier : inGd (.code yX9_terrier cX9_terrier 4 (some .int)) = true := by decide +kernel
theorem iv_X9_terrier : ivOk yX9_terrier = true := by decide +kernel
theorem md_X9_whose : mdOk yX9_whose 1 = true := by decide +kernel
theorem co_X9_whose : inGd (.code yX9_whose cX9_whose 2 (some .int)) = true := by decide +kernel
theorem iv_X9_whose : ivOk yX9_whose = true := by decide +kernel
theorem md_X9_write : mdOk yX9_write 2 = true := by decide +kernel
theorem co_X9_write : inGd (.code yX9_write cX9_write 4 (some .int)) = true := by decide +kernel
theorem iv_X9_write : ivOk yX9_write = true := by decide +kernel
theorem md_X10_bundle : mdOk yX10_bundle 2 = true := by decide +kernel
theorem co_X10_bundle : inGd (.code yX10_bundle cX10_bundle 3 (some .int)) = true := by decide +kernel
theorem iv_X10_bundle : ivOk yX10_bundle = true := by decide +kernel
theorem md_X10_count : mdOk yX10_count 1 = true := by decide +kernel
theorem co_X10_count : inGd (.code yX10_count cX10_count 4 (some .int)) = true := by decide +kernel
theorem iv_X10_count : ivOk yX10_count = true := by decide +kernel
theorem md_X10_covers : mdOk yX10_covers 2 = true := by decide +kernel
theorem co_X10_covers : inGd (.code yX10_covers cX10_covers 3 (some .int)) = true := by decide +kernel
theorem iv_X10_covers : ivOk yX10_covers = true := by decide +kernel
theorem md_X10_erase : mdOk yX10_erase 0 = true := by decide +kernel
theorem co_X10_erase : inGd (.code yX10_erase cX10_erase 2 (some .int)) = true := by decide +kernel
theorem iv_X10_erase : ivOk yX10_erase = true := by decide +kernel
theorem md_X10_fault : mdOk yX10_fault 0 = true := by decide +kernel
theorem co_X10_fault : inGd (.code yX10_fault cX10_fault 1 (some .int)) = true := by decide +kernel
theorem iv_X10_fault : ivOk yX10_fault = true := by decide +kernel
theorem md_X10_field : mdOk yX10_field 2 = true := by decide +kernel
theorem co_X10_field : inGd (.code yX10_field cX10_field 7 (some .int)) = true := by decide +kernel
theorem iv_X10_field : ivOk yX10_field = true := by decide +kernel
theorem md_X10_fields : mdOk yX10_fields 0 = true := by decide +kernel
theorem co_X10_fields : inGd (.code yX10_fields cX10_fields 3 (some .int)) = true := by decide +kernel
theorem iv_X10_fields : ivOk yX10_fields = true := by decide +kernel
theorem md_X10_given : mdOk yX10_given 1 = true := by decide +kernel
theorem co_X10_given : inGd (.code yX10_given cX10_given 2 (some .int)) = true := by decide +kernel
theorem iv_X10_given : ivOk yX10_given = true := by decide +kernel
theorem md_X10_holder : mdOk yX10_holder 2 = true := by decide +kernel
theorem co_X10_holder : inGd (.code yX10_holder cX10_holder 4 (some .int)) = true := by decide +kernel
theorem iv_X10_holder : ivOk yX10_holder = true := by decide +kernel
theorem md_X10_joined : mdOk yX10_joined 2 = true := by decide +kernel
theorem co_X10_joined : inGd (.code yX10_joined cX10_joined 3 (some .int)) = true := by decide +kernel
theorem iv_X10_joined : ivOk yX10_joined = true := by decide +kernel
theorem md_X10_later : mdOk yX10_later 2 = true := by decide +kernel
theorem co_X10_later : inGd (.code yX10_later cX10_later 15 (some .int)) = true := by decide +kernel
theorem iv_X10_later : ivOk yX10_later = true := by decide +kernel
theorem md_X10_odds : mdOk yX10_odds 3 = true := by decide +kernel
theorem co_X10_odds : inGd (.code yX10_odds cX10_odds 7 (some .int)) = true := by decide +kernel
theorem iv_X10_odds : ivOk yX10_odds = true := by decide +kernel
theorem md_X10_over : mdOk yX10_over 2 = true := by decide +kernel
theorem co_X10_over : inGd (.code yX10_over cX10_over 3 (some .int)) = true := by decide +kernel
theorem iv_X10_over : ivOk yX10_over = true := by decide +kernel
theorem md_X10_parish : mdOk yX10_parish 0 = true := by decide +kernel
theorem co_X10_parish : inGd (.code yX10_parish cX10_parish 2 (some .int)) = true := by decide +kernel
theorem iv_X10_parish : ivOk yX10_parish = true := by decide +kernel
theorem md_X10_peak : mdOk yX10_peak 1 = true := by decide +kernel
theorem co_X10_peak : inGd (.code yX10_peak cX10_peak 6 (some .int)) = true := by decide +kernel
theorem iv_X10_peak : ivOk yX10_peak = true := by decide +kernel
theorem md_X10_picture : mdOk yX10_picture 3 = true := by decide +kernel
theorem co_X10_picture : inGd (.code yX10_picture cX10_picture 4 (some .int)) = true := by decide +kernel
theorem iv_X10_picture : ivOk yX10_picture = true := by decide +kernel
theorem md_X10_ploughed : mdOk yX10_ploughed 2 = true := by decide +kernel
theorem co_X10_ploughed : inGd (.code yX10_ploughed cX10_ploughed 3 (some .int)) = true := by decide +kernel
theorem iv_X10_ploughed : ivOk yX10_ploughed = true := by decide +kernel
theorem md_X10_ring : mdOk yX10_ring 0 = true := by decide +kernel
theorem co_X10_ring : inGd (.code yX10_ring cX10_ring 1 (some .int)) = true := by decide +kernel
theorem iv_X10_ring : ivOk yX10_ring = true := by decide +kernel
theorem md_X10_round : mdOk yX10_round 0 = true := by decide +kernel
theorem co_X10_round : inGd (.code yX10_round cX10_round 1 (some .int)) = true := by decide +kernel
theorem iv_X10_round : ivOk yX10_round = true := by decide +kernel
theorem md_X10_seen : mdOk yX10_seen 1 = true := by decide +kernel
theorem co_X10_seen : inGd (.code yX10_seen cX10_seen 9 (some .int)) = true := by decide +kernel
theorem iv_X10_seen : ivOk yX10_seen = true := by decide +kernel
theorem md_X10_shows : mdOk yX10_shows 2 = true := by decide +kernel
theorem co_X10_shows : inGd (.code yX10_shows cX10_shows 3 (some .int)) = true := by decide +kernel
theorem iv_X10_shows : ivOk yX10_shows = true := by decide +kernel
theorem md_X10_span : mdOk yX10_span 2 = true := by decide +kernel
theorem co_X10_span : inGd (.code yX10_span cX10_span 3 (some .int)) = true := by decide +kernel
theorem iv_X10_span : ivOk yX10_span = true := by decide +kernel
theorem md_X10_stack : mdOk yX10_stack 1 = true := by decide +kernel
theorem co_X10_stack : inGd (.code yX10_stack cX10_stack 6 (some .int)) = true := by decide +kernel
theorem iv_X10_stack : ivOk yX10_stack = true := by decide +kernel
theorem md_X10_teams : mdOk yX10_teams 1 = true := by decide +kernel
theorem co_X10_teams : inGd (.code yX10_teams cX10_teams 2 (some .int)) = true := by decide +kernel
theorem iv_X10_teams : ivOk yX10_teams = true := by decide +kernel
theorem md_X10_terrier : mdOk yX10_terrier 3 = true := by decide +kernel
theorem co_X10_terrier : inGd (.code yX10_terrier cX10_terrier 5 (some .int)) = true := by decide +kernel
theorem iv_X10_terrier : ivOk yX10_terrier = true := by decide +kernel
theorem md_X10_whose : mdOk yX10_whose 1 = true := by decide +kernel
theorem co_X10_whose : inGd (.code yX10_whose cX10_whose 5 (some .int)) = true := by decide +kernel
theorem iv_X10_whose : ivOk yX10_whose = true := by decide +kernel
theorem md_X10_write : mdOk yX10_write 2 = true := by decide +kernel
theorem co_X10_write : inGd (.code yX10_write cX10_write 5 (some .int)) = true := by decide +kernel
theorem iv_X10_write : ivOk yX10_write = true := by decide +kernel
theorem lk_RL_15 : lkOk RL 15 yX9_write = true := by decide +kernel
theorem C_RL_15 {cc : ByteArray} {nL d pc : Nat} {X : bX} {L : List (Option Value)} {S : List Value} {w : Wd} {w' : Wd} {a0 : Value} {a1 : Value} {x : Int32} (hX : bOk cc nL RL (d + 1) X) (hC : Con d yX9_write cX9_write 4 (some .int) [.ref 0, a0, a1] w (some (.int x)) w') (hr : (S.map fun v => v.category).sum ≤ 8) (hd : decode cc pc = .ok (.invokevirtual 15, 3)) (k : bV X (pc + 3) L (.int x :: S) w') : bV X pc L (a1 :: a0 :: .ref 0 :: S) w := V_callV (As := [a0, a1]) hX hC lk_RL_15 md_X9_write iv_X9_write co_X9_write (Nat.le_of_ble_eq_true rfl) (Nat.le_of_ble_eq_true rfl) lay_0 rfl rfl hr hd k
theorem lk_RL_19 : lkOk RL 19 yX10_write = true := by decide +kernel
theorem C_RL_19 {cc : ByteArray} {nL d pc : Nat} {X : bX} {L : List (Option Value)} {S : List Value} {w : Wd} {w' : Wd} {a0 : Value} {a1 : Value} {x : Int32} (hX : bOk cc nL RL (d + 1) X) (hC : Con d yX10_write cX10_write 5 (some .int) [.ref 33, a0, a1] w (some (.int x)) w') (hr : (S.map fun v => v.category).sum ≤ 8) (hd : decode cc pc = .ok (.invokevirtual 19, 3)) (k : bV X (pc + 3) L (.int x :: S) w') : bV X pc L (a1 :: a0 :: .ref 33 :: S) w := V_callV (As := [a0, a1]) hX hC lk_RL_19 md_X10_write iv_X10_write co_X10_write (Nat.le_of_ble_eq_true rfl) (Nat.le_of_ble_eq_true rfl) lay_33 rfl rfl hr hd k
theorem lk_RL_20 : lkOk RL 20 yX9_erase = true := by decide +kernel
theorem C_RL_20 {cc : ByteArray} {nL d pc : Nat} {X : bX} {L : List (Option Value)} {S : List Value} {w : Wd} {w' : Wd} {x : Int32} (hX : bOk cc nL RL (d + 1) X) (hC : Con d yX9_erase cX9_erase 2 (some .int) [.ref 0] w (some (.int x)) w') (hr : (S.map fun v => v.category).sum ≤ 8) (hd : decode cc pc = .ok (.invokevirtual 20, 3)) (k : bV X (pc + 3) L (.int x :: S) w') : bV X pc L (.ref 0 :: S) w := V_callV (As := []) hX hC lk_RL_20 md_X9_erase iv_X9_erase co_X9_erase (Nat.le_of_ble_eq_true rfl) (Nat.le_of_ble_eq_true rfl) lay_0 rfl rfl hr hd k
theorem lk_RL_24 : lkOk RL 24 yX10_erase = true := by decide +kernel
theorem C_RL_24 {cc : ByteArray} {nL d pc : Nat} {X : bX} {L : List (Option Value)} {S : List Value} {w : Wd} {w' : Wd} {x : Int32} (hX : bOk cc nL RL (d + 1) X) (hC : Con d yX10_erase cX10_erase 2 (some .int) [.ref 33] w (some (.int x)) w') (hr : (S.map fun v => v.category).sum ≤ 8) (hd : decode cc pc = .ok (.invokevirtual 24, 3)) (k : bV X (pc + 3) L (.int x :: S) w') : bV X pc L (.ref 33 :: S) w := V_callV (As := []) hX hC lk_RL_24 md_X10_erase iv_X10_erase co_X10_erase (Nat.le_of_ble_eq_true rfl) (Nat.le_of_ble_eq_true rfl) lay_33 rfl rfl hr hd k
theorem lk_RL_25 : lkOk RL 25 yX9_fault = true := by decide +kernel
theorem C_RL_25 {cc : ByteArray} {nL d pc : Nat} {X : bX} {L : List (Option Value)} {S : List Value} {w : Wd} {w' : Wd} {x : Int32} (hX : bOk cc nL RL (d + 1) X) (hC : Con d yX9_fault cX9_fault 1 (some .int) [.ref 0] w (some (.int x)) w') (hr : (S.map fun v => v.category).sum ≤ 8) (hd : decode cc pc = .ok (.invokevirtual 25, 3)) (k : bV X (pc + 3) L (.int x :: S) w') : bV X pc L (.ref 0 :: S) w := V_callV (As := []) hX hC lk_RL_25 md_X9_fault iv_X9_fault co_X9_fault (Nat.le_of_ble_eq_true rfl) (Nat.le_of_ble_eq_true rfl) lay_0 rfl rfl hr hd k
theorem lk_RL_28 : lkOk RL 28 yX10_fault = true := by decide +kernel
theorem C_RL_28 {cc : ByteArray} {nL d pc : Nat} {X : bX} {L : List (Option Value)} {S : List Value} {w : Wd} {w' : Wd} {x : Int32} (hX : bOk cc nL RL (d + 1) X) (hC : Con d yX10_fault cX10_fault 1 (some .int) [.ref 33] w (some (.int x)) w') (hr : (S.map fun v => v.category).sum ≤ 8) (hd : decode cc pc = .ok (.invokevirtual 28, 3)) (k : bV X (pc + 3) L (.int x :: S) w') : bV X pc L (.ref 33 :: S) w := V_callV (As := []) hX hC lk_RL_28 md_X10_fault iv_X10_fault co_X10_fault (Nat.le_of_ble_eq_true rfl) (Nat.le_of_ble_eq_true rfl) lay_33 rfl rfl hr hd k
theorem lk_RL_29 : lkOk RL 29 yX9_parish = true := by decide +kernel
theorem C_RL_29 {cc : ByteArray} {nL d pc : Nat} {X : bX} {L : List (Option Value)} {S : List Value} {w : Wd} {w' : Wd} {x : Int32} (hX : bOk cc nL RL (d + 1) X) (hC : Con d yX9_parish cX9_parish 2 (some .int) [.ref 0] w (some (.int x)) w') (hr : (S.map fun v => v.category).sum ≤ 8) (hd : decode cc pc = .ok (.invokevirtual 29, 3)) (k : bV X (pc + 3) L (.int x :: S) w') : bV X pc L (.ref 0 :: S) w := V_callV (As := []) hX hC lk_RL_29 md_X9_parish iv_X9_parish co_X9_parish (Nat.le_of_ble_eq_true rfl) (Nat.le_of_ble_eq_true rfl) lay_0 rfl rfl hr hd k
theorem lk_RL_32 : lkOk RL 32 yX10_parish = true := by decide +kernel
theorem C_RL_32 {cc : ByteArray} {nL d pc : Nat} {X : bX} {L : List (Option Value)} {S : List Value} {w : Wd} {w' : Wd} {x : Int32} (hX : bOk cc nL RL (d + 1) X) (hC : Con d yX10_parish cX10_parish 2 (some .int) [.ref 33] w (some (.int x)) w') (hr : (S.map fun v => v.category).sum ≤ 8) (hd : decode cc pc = .ok (.invokevirtual 32, 3)) (k : bV X (pc + 3) L (.int x :: S) w') : bV X pc L (.ref 33 :: S) w := V_callV (As := []) hX hC lk_RL_32 md_X10_parish iv_X10_parish co_X10_parish (Nat.le_of_ble_eq_true rfl) (Nat.le_of_ble_eq_true rfl) lay_33 rfl rfl hr hd k
theorem lk_RL_33 : lkOk RL 33 yX9_bundle = true := by decide +kernel
theorem C_RL_33 {cc : ByteArray} {nL d pc : Nat} {X : bX} {L : List (Option Value)} {S : List Value} {w : Wd} {w' : Wd} {a0 : Value} {a1 : Value} {x : Int32} (hX : bOk cc nL RL (d + 1) X) (hC : Con d yX9_bundle cX9_bundle 3 (some .int) [.ref 0, a0, a1] w (some (.int x)) w') (hr : (S.map fun v => v.category).sum ≤ 8) (hd : decode cc pc = .ok (.invokevirtual 33, 3)) (k : bV X (pc + 3) L (.int x :: S) w') : bV X pc L (a1 :: a0 :: .ref 0 :: S) w := V_callV (As := [a0, a1]) hX hC lk_RL_33 md_X9_bundle iv_X9_bundle co_X9_bundle (Nat.le_of_ble_eq_true rfl) (Nat.le_of_ble_eq_true rfl) lay_0 rfl rfl hr hd k
theorem lk_RL_37 : lkOk RL 37 yX10_bundle = true := by decide +kernel
theorem C_RL_37 {cc : ByteArray} {nL d pc : Nat} {X : bX} {L : List (Option Value)} {S : List Value} {w : Wd} {w' : Wd} {a0 : Value} {a1 : Value} {x : Int32} (hX : bOk cc nL RL (d + 1) X) (hC : Con d yX10_bundle cX10_bundle 3 (some .int) [.ref 33, a0, a1] w (some (.int x)) w') (hr : (S.map fun v => v.category).sum ≤ 8) (hd : decode cc pc = .ok (.invokevirtual 37, 3)) (k : bV X (pc + 3) L (.int x :: S) w') : bV X pc L (a1 :: a0 :: .ref 33 :: S) w := V_callV (As := [a0, a1]) hX hC lk_RL_37 md_X10_bundle iv_X10_bundle co_X10_bundle (Nat.le_of_ble_eq_true rfl) (Nat.le_of_ble_eq_true rfl) lay_33 rfl rfl hr hd k
theorem lk_RL_38 : lkOk RL 38 yX9_covers = true := by decide +kernel
theorem C_RL_38 {cc : ByteArray} {nL d pc : Nat} {X : bX} {L : List (Option Value)} {S : List Value} {w : Wd} {w' : Wd} {a0 : Value} {a1 : Value} {x : Int32} (hX : bOk cc nL RL (d + 1) X) (hC : Con d yX9_covers cX9_covers 3 (some .int) [.ref 0, a0, a1] w (some (.int x)) w') (hr : (S.map fun v => v.category).sum ≤ 8) (hd : decode cc pc = .ok (.invokevirtual 38, 3)) (k : bV X (pc + 3) L (.int x :: S) w') : bV X pc L (a1 :: a0 :: .ref 0 :: S) w := V_callV (As := [a0, a1]) hX hC lk_RL_38 md_X9_covers iv_X9_covers co_X9_covers (Nat.le_of_ble_eq_true rfl) (Nat.le_of_ble_eq_true rfl) lay_0 rfl rfl hr hd k
theorem lk_RL_41 : lkOk RL 41 yX10_covers = true := by decide +kernel
theorem C_RL_41 {cc : ByteArray} {nL d pc : Nat} {X : bX} {L : List (Option Value)} {S : List Value} {w : Wd} {w' : Wd} {a0 : Value} {a1 : Value} {x : Int32} (hX : bOk cc nL RL (d + 1) X) (hC : Con d yX10_covers cX10_covers 3 (some .int) [.ref 33, a0, a1] w (some (.int x)) w') (hr : (S.map fun v => v.category).sum ≤ 8) (hd : decode cc pc = .ok (.invokevirtual 41, 3)) (k : bV X (pc + 3) L (.int x :: S) w') : bV X pc L (a1 :: a0 :: .ref 33 :: S) w := V_callV (As := [a0, a1]) hX hC lk_RL_41 md_X10_covers iv_X10_covers co_X10_covers (Nat.le_of_ble_eq_true rfl) (Nat.le_of_ble_eq_true rfl) lay_33 rfl rfl hr hd k
theorem lk_RL_42 : lkOk RL 42 yX9_teams = true := by decide +kernel
theorem C_RL_42 {cc : ByteArray} {nL d pc : Nat} {X : bX} {L : List (Option Value)} {S : List Value} {w : Wd} {w' : Wd} {a0 : Value} {x : Int32} (hX : bOk cc nL RL (d + 1) X) (hC : Con d yX9_teams cX9_teams 2 (some .int) [.ref 0, a0] w (some (.int x)) w') (hr : (S.map fun v => v.category).sum ≤ 8) (hd : decode cc pc = .ok (.invokevirtual 42, 3)) (k : bV X (pc + 3) L (.int x :: S) w') : bV X pc L (a0 :: .ref 0 :: S) w := V_callV (As := [a0]) hX hC lk_RL_42 md_X9_teams iv_X9_teams co_X9_teams (Nat.le_of_ble_eq_true rfl) (Nat.le_of_ble_eq_true rfl) lay_0 rfl rfl hr hd k
theorem lk_RL_46 : lkOk RL 46 yX10_teams = true := by decide +kernel
theorem C_RL_46 {cc : ByteArray} {nL d pc : Nat} {X : bX} {L : List (Option Value)} {S : List Value} {w : Wd} {w' : Wd} {a0 : Value} {x : Int32} (hX : bOk cc nL RL (d + 1) X) (hC : Con d yX10_teams cX10_teams 2 (some .int) [.ref 33, a0] w (some (.int x)) w') (hr : (S.map fun v => v.category).sum ≤ 8) (hd : decode cc pc = .ok (.invokevirtual 46, 3)) (k : bV X (pc + 3) L (.int x :: S) w') : bV X pc L (a0 :: .ref 33 :: S) w := V_callV (As := [a0]) hX hC lk_RL_46 md_X10_teams iv_X10_teams co_X10_teams (Nat.le_of_ble_eq_true rfl) (Nat.le_of_ble_eq_true rfl) lay_33 rfl rfl hr hd k
theorem lk_RL_47 : lkOk RL 47 yX9_span = true := by decide +kernel
theorem C_RL_47 {cc : ByteArray} {nL d pc : Nat} {X : bX} {L : List (Option Value)} {S : List Value} {w : Wd} {w' : Wd} {a0 : Value} {a1 : Value} {x : Int32} (hX : bOk cc nL RL (d + 1) X) (hC : Con d yX9_span cX9_span 3 (some .int) [.ref 0, a0, a1] w (some (.int x)) w') (hr : (S.map fun v => v.category).sum ≤ 8) (hd : decode cc pc = .ok (.invokevirtual 47, 3)) (k : bV X (pc + 3) L (.int x :: S) w') : bV X pc L (a1 :: a0 :: .ref 0 :: S) w := V_callV (As := [a0, a1]) hX hC lk_RL_47 md_X9_span iv_X9_span co_X9_span (Nat.le_of_ble_eq_true rfl) (Nat.le_of_ble_eq_true rfl) lay_0 rfl rfl hr hd k
theorem lk_RL_50 : lkOk RL 50 yX10_span = true := by decide +kernel
theorem C_RL_50 {cc : ByteArray} {nL d pc : Nat} {X : bX} {L : List (Option Value)} {S : List Value} {w : Wd} {w' : Wd} {a0 : Value} {a1 : Value} {x : Int32} (hX : bOk cc nL RL (d + 1) X) (hC : Con d yX10_span cX10_span 3 (some .int) [.ref 33, a0, a1] w (some (.int x)) w') (hr : (S.map fun v => v.category).sum ≤ 8) (hd : decode cc pc = .ok (.invokevirtual 50, 3)) (k : bV X (pc + 3) L (.int x :: S) w') : bV X pc L (a1 :: a0 :: .ref 33 :: S) w := V_callV (As := [a0, a1]) hX hC lk_RL_50 md_X10_span iv_X10_span co_X10_span (Nat.le_of_ble_eq_true rfl) (Nat.le_of_ble_eq_true rfl) lay_33 rfl rfl hr hd k
theorem lk_RL_51 : lkOk RL 51 yX9_ring = true := by decide +kernel
theorem C_RL_51 {cc : ByteArray} {nL d pc : Nat} {X : bX} {L : List (Option Value)} {S : List Value} {w : Wd} {w' : Wd} {x : Int32} (hX : bOk cc nL RL (d + 1) X) (hC : Con d yX9_ring cX9_ring 1 (some .int) [.ref 0] w (some (.int x)) w') (hr : (S.map fun v => v.category).sum ≤ 8) (hd : decode cc pc = .ok (.invokevirtual 51, 3)) (k : bV X (pc + 3) L (.int x :: S) w') : bV X pc L (.ref 0 :: S) w := V_callV (As := []) hX hC lk_RL_51 md_X9_ring iv_X9_ring co_X9_ring (Nat.le_of_ble_eq_true rfl) (Nat.le_of_ble_eq_true rfl) lay_0 rfl rfl hr hd k
theorem lk_RL_54 : lkOk RL 54 yX10_ring = true := by decide +kernel
theorem C_RL_54 {cc : ByteArray} {nL d pc : Nat} {X : bX} {L : List (Option Value)} {S : List Value} {w : Wd} {w' : Wd} {x : Int32} (hX : bOk cc nL RL (d + 1) X) (hC : Con d yX10_ring cX10_ring 1 (some .int) [.ref 33] w (some (.int x)) w') (hr : (S.map fun v => v.category).sum ≤ 8) (hd : decode cc pc = .ok (.invokevirtual 54, 3)) (k : bV X (pc + 3) L (.int x :: S) w') : bV X pc L (.ref 33 :: S) w := V_callV (As := []) hX hC lk_RL_54 md_X10_ring iv_X10_ring co_X10_ring (Nat.le_of_ble_eq_true rfl) (Nat.le_of_ble_eq_true rfl) lay_33 rfl rfl hr hd k
theorem lk_RL_55 : lkOk RL 55 yX9_stack = true := by decide +kernel
theorem C_RL_55 {cc : ByteArray} {nL d pc : Nat} {X : bX} {L : List (Option Value)} {S : List Value} {w : Wd} {w' : Wd} {a0 : Value} {x : Int32} (hX : bOk cc nL RL (d + 1) X) (hC : Con d yX9_stack cX9_stack 2 (some .int) [.ref 0, a0] w (some (.int x)) w') (hr : (S.map fun v => v.category).sum ≤ 8) (hd : decode cc pc = .ok (.invokevirtual 55, 3)) (k : bV X (pc + 3) L (.int x :: S) w') : bV X pc L (a0 :: .ref 0 :: S) w := V_callV (As := [a0]) hX hC lk_RL_55 md_X9_stack iv_X9_stack co_X9_stack (Nat.le_of_ble_eq_true rfl) (Nat.le_of_ble_eq_true rfl) lay_0 rfl rfl hr hd k
theorem lk_RL_58 : lkOk RL 58 yX10_stack = true := by decide +kernel
theorem C_RL_58 {cc : ByteArray} {nL d pc : Nat} {X : bX} {L : List (Option Value)} {S : List Value} {w : Wd} {w' : Wd} {a0 : Value} {x : Int32} (hX : bOk cc nL RL (d + 1) X) (hC : Con d yX10_stack cX10_stack 6 (some .int) [.ref 33, a0] w (some (.int x)) w') (hr : (S.map fun v => v.category).sum ≤ 8) (hd : decode cc pc = .ok (.invokevirtual 58, 3)) (k : bV X (pc + 3) L (.int x :: S) w') : bV X pc L (a0 :: .ref 33 :: S) w := V_callV (As := [a0]) hX hC lk_RL_58 md_X10_stack iv_X10_stack co_X10_stack (Nat.le_of_ble_eq_true rfl) (Nat.le_of_ble_eq_true rfl) lay_33 rfl rfl hr hd k
theorem lk_RL_59 : lkOk RL 59 yX9_over = true := by decide +kernel
theorem C_RL_59 {cc : ByteArray} {nL d pc : Nat} {X : bX} {L : List (Option Value)} {S : List Value} {w : Wd} {w' : Wd} {a0 : Value} {a1 : Value} {x : Int32} (hX : bOk cc nL RL (d + 1) X) (hC : Con d yX9_over cX9_over 3 (some .int) [.ref 0, a0, a1] w (some (.int x)) w') (hr : (S.map fun v => v.category).sum ≤ 8) (hd : decode cc pc = .ok (.invokevirtual 59, 3)) (k : bV X (pc + 3) L (.int x :: S) w') : bV X pc L (a1 :: a0 :: .ref 0 :: S) w := V_callV (As := [a0, a1]) hX hC lk_RL_59 md_X9_over iv_X9_over co_X9_over (Nat.le_of_ble_eq_true rfl) (Nat.le_of_ble_eq_true rfl) lay_0 rfl rfl hr hd k
theorem lk_RL_62 : lkOk RL 62 yX10_over = true := by decide +kernel
theorem C_RL_62 {cc : ByteArray} {nL d pc : Nat} {X : bX} {L : List (Option Value)} {S : List Value} {w : Wd} {w' : Wd} {a0 : Value} {a1 : Value} {x : Int32} (hX : bOk cc nL RL (d + 1) X) (hC : Con d yX10_over cX10_over 3 (some .int) [.ref 33, a0, a1] w (some (.int x)) w') (hr : (S.map fun v => v.category).sum ≤ 8) (hd : decode cc pc = .ok (.invokevirtual 62, 3)) (k : bV X (pc + 3) L (.int x :: S) w') : bV X pc L (a1 :: a0 :: .ref 33 :: S) w := V_callV (As := [a0, a1]) hX hC lk_RL_62 md_X10_over iv_X10_over co_X10_over (Nat.le_of_ble_eq_true rfl) (Nat.le_of_ble_eq_true rfl) lay_33 rfl rfl hr hd k
theorem lk_RL_63 : lkOk RL 63 yX9_joined = true := by decide +kernel
theorem C_RL_63 {cc : ByteArray} {nL d pc : Nat} {X : bX} {L : List (Option Value)} {S : List Value} {w : Wd} {w' : Wd} {a0 : Value} {a1 : Value} {x : Int32} (hX : bOk cc nL RL (d + 1) X) (hC : Con d yX9_joined cX9_joined 3 (some .int) [.ref 0, a0, a1] w (some (.int x)) w') (hr : (S.map fun v => v.category).sum ≤ 8) (hd : decode cc pc = .ok (.invokevirtual 63, 3)) (k : bV X (pc + 3) L (.int x :: S) w') : bV X pc L (a1 :: a0 :: .ref 0 :: S) w := V_callV (As := [a0, a1]) hX hC lk_RL_63 md_X9_joined iv_X9_joined co_X9_joined (Nat.le_of_ble_eq_true rfl) (Nat.le_of_ble_eq_true rfl) lay_0 rfl rfl hr hd k
theorem lk_RL_66 : lkOk RL 66 yX10_joined = true := by decide +kernel
theorem C_RL_66 {cc : ByteArray} {nL d pc : Nat} {X : bX} {L : List (Option Value)} {S : List Value} {w : Wd} {w' : Wd} {a0 : Value} {a1 : Value} {x : Int32} (hX : bOk cc nL RL (d + 1) X) (hC : Con d yX10_joined cX10_joined 3 (some .int) [.ref 33, a0, a1] w (some (.int x)) w') (hr : (S.map fun v => v.category).sum ≤ 8) (hd : decode cc pc = .ok (.invokevirtual 66, 3)) (k : bV X (pc + 3) L (.int x :: S) w') : bV X pc L (a1 :: a0 :: .ref 33 :: S) w := V_callV (As := [a0, a1]) hX hC lk_RL_66 md_X10_joined iv_X10_joined co_X10_joined (Nat.le_of_ble_eq_true rfl) (Nat.le_of_ble_eq_true rfl) lay_33 rfl rfl hr hd k
theorem lk_RL_67 : lkOk RL 67 yX9_later = true := by decide +kernel
theorem C_RL_67 {cc : ByteArray} {nL d pc : Nat} {X : bX} {L : List (Option Value)} {S : List Value} {w : Wd} {w' : Wd} {a0 : Value} {a1 : Value} {x : Int32} (hX : bOk cc nL RL (d + 1) X) (hC : Con d yX9_later cX9_later 3 (some .int) [.ref 0, a0, a1] w (some (.int x)) w') (hr : (S.map fun v => v.category).sum ≤ 8) (hd : decode cc pc = .ok (.invokevirtual 67, 3)) (k : bV X (pc + 3) L (.int x :: S) w') : bV X pc L (a1 :: a0 :: .ref 0 :: S) w := V_callV (As := [a0, a1]) hX hC lk_RL_67 md_X9_later iv_X9_later co_X9_later (Nat.le_of_ble_eq_true rfl) (Nat.le_of_ble_eq_true rfl) lay_0 rfl rfl hr hd k
theorem lk_RL_70 : lkOk RL 70 yX10_later = true := by decide +kernel
theorem C_RL_70 {cc : ByteArray} {nL d pc : Nat} {X : bX} {L : List (Option Value)} {S : List Value} {w : Wd} {w' : Wd} {a0 : Value} {a1 : Value} {x : Int32} (hX : bOk cc nL RL (d + 1) X) (hC : Con d yX10_later cX10_later 15 (some .int) [.ref 33, a0, a1] w (some (.int x)) w') (hr : (S.map fun v => v.category).sum ≤ 8) (hd : decode cc pc = .ok (.invokevirtual 70, 3)) (k : bV X (pc + 3) L (.int x :: S) w') : bV X pc L (a1 :: a0 :: .ref 33 :: S) w := V_callV (As := [a0, a1]) hX hC lk_RL_70 md_X10_later iv_X10_later co_X10_later (Nat.le_of_ble_eq_true rfl) (Nat.le_of_ble_eq_true rfl) lay_33 rfl rfl hr hd k
theorem lk_RL_71 : lkOk RL 71 yX9_odds = true := by decide +kernel
theorem C_RL_71 {cc : ByteArray} {nL d pc : Nat} {X : bX} {L : List (Option Value)} {S : List Value} {w : Wd} {w' : Wd} {a0 : Value} {a1 : Value} {a2 : Value} {x : Int32} (hX : bOk cc nL RL (d + 1) X) (hC : Con d yX9_odds cX9_odds 4 (some .int) [.ref 0, a0, a1, a2] w (some (.int x)) w') (hr : (S.map fun v => v.category).sum ≤ 8) (hd : decode cc pc = .ok (.invokevirtual 71, 3)) (k : bV X (pc + 3) L (.int x :: S) w') : bV X pc L (a2 :: a1 :: a0 :: .ref 0 :: S) w := V_callV (As := [a0, a1, a2]) hX hC lk_RL_71 md_X9_odds iv_X9_odds co_X9_odds (Nat.le_of_ble_eq_true rfl) (Nat.le_of_ble_eq_true rfl) lay_0 rfl rfl hr hd k
theorem lk_RL_75 : lkOk RL 75 yX10_odds = true := by decide +kernel
theorem C_RL_75 {cc : ByteArray} {nL d pc : Nat} {X : bX} {L : List (Option Value)} {S : List Value} {w : Wd} {w' : Wd} {a0 : Value} {a1 : Value} {a2 : Value} {x : Int32} (hX : bOk cc nL RL (d + 1) X) (hC : Con d yX10_odds cX10_odds 7 (some .int) [.ref 33, a0, a1, a2] w (some (.int x)) w') (hr : (S.map fun v => v.category).sum ≤ 8) (hd : decode cc pc = .ok (.invokevirtual 75, 3)) (k : bV X (pc + 3) L (.int x :: S) w') : bV X pc L (a2 :: a1 :: a0 :: .ref 33 :: S) w := V_callV (As := [a0, a1, a2]) hX hC lk_RL_75 md_X10_odds iv_X10_odds co_X10_odds (Nat.le_of_ble_eq_true rfl) (Nat.le_of_ble_eq_true rfl) lay_33 rfl rfl hr hd k
theorem lk_RL_76 : lkOk RL 76 yX9_field = true := by decide +kernel
theorem C_RL_76 {cc : ByteArray} {nL d pc : Nat} {X : bX} {L : List (Option Value)} {S : List Value} {w : Wd} {w' : Wd} {a0 : Value} {a1 : Value} {x : Int32} (hX : bOk cc nL RL (d + 1) X) (hC : Con d yX9_field cX9_field 4 (some .int) [.ref 0, a0, a1] w (some (.int x)) w') (hr : (S.map fun v => v.category).sum ≤ 8) (hd : decode cc pc = .ok (.invokevirtual 76, 3)) (k : bV X (pc + 3) L (.int x :: S) w') : bV X pc L (a1 :: a0 :: .ref 0 :: S) w := V_callV (As := [a0, a1]) hX hC lk_RL_76 md_X9_field iv_X9_field co_X9_field (Nat.le_of_ble_eq_true rfl) (Nat.le_of_ble_eq_true rfl) lay_0 rfl rfl hr hd k
theorem lk_RL_79 : lkOk RL 79 yX10_field = true := by decide +kernel
theorem C_RL_79 {cc : ByteArray} {nL d pc : Nat} {X : bX} {L : List (Option Value)} {S : List Value} {w : Wd} {w' : Wd} {a0 : Value} {a1 : Value} {x : Int32} (hX : bOk cc nL RL (d + 1) X) (hC : Con d yX10_field cX10_field 7 (some .int) [.ref 33, a0, a1] w (some (.int x)) w') (hr : (S.map fun v => v.category).sum ≤ 8) (hd : decode cc pc = .ok (.invokevirtual 79, 3)) (k : bV X (pc + 3) L (.int x :: S) w') : bV X pc L (a1 :: a0 :: .ref 33 :: S) w := V_callV (As := [a0, a1]) hX hC lk_RL_79 md_X10_field iv_X10_field co_X10_field (Nat.le_of_ble_eq_true rfl) (Nat.le_of_ble_eq_true rfl) lay_33 rfl rfl hr hd k
theorem lk_RL_80 : lkOk RL 80 yX9_fields = true := by decide +kernel
theorem C_RL_80 {cc : ByteArray} {nL d pc : Nat} {X : bX} {L : List (Option Value)} {S : List Value} {w : Wd} {w' : Wd} {x : Int32} (hX : bOk cc nL RL (d + 1) X) (hC : Con d yX9_fields cX9_fields 1 (some .int) [.ref 0] w (some (.int x)) w') (hr : (S.map fun v => v.category).sum ≤ 8) (hd : decode cc pc = .ok (.invokevirtual 80, 3)) (k : bV X (pc + 3) L (.int x :: S) w') : bV X pc L (.ref 0 :: S) w := V_callV (As := []) hX hC lk_RL_80 md_X9_fields iv_X9_fields co_X9_fields (Nat.le_of_ble_eq_true rfl) (Nat.le_of_ble_eq_true rfl) lay_0 rfl rfl hr hd k
theorem lk_RL_83 : lkOk RL 83 yX10_fields = true := by decide +kernel
theorem C_RL_83 {cc : ByteArray} {nL d pc : Nat} {X : bX} {L : List (Option Value)} {S : List Value} {w : Wd} {w' : Wd} {x : Int32} (hX : bOk cc nL RL (d + 1) X) (hC : Con d yX10_fields cX10_fields 3 (some .int) [.ref 33] w (some (.int x)) w') (hr : (S.map fun v => v.category).sum ≤ 8) (hd : decode cc pc = .ok (.invokevirtual 83, 3)) (k : bV X (pc + 3) L (.int x :: S) w') : bV X pc L (.ref 33 :: S) w := V_callV (As := []) hX hC lk_RL_83 md_X10_fields iv_X10_fields co_X10_fields (Nat.le_of_ble_eq_true rfl) (Nat.le_of_ble_eq_true rfl) lay_33 rfl rfl hr hd k
theorem lk_RL_84 : lkOk RL 84 yX9_ploughed = true := by decide +kernel
theorem C_RL_84 {cc : ByteArray} {nL d pc : Nat} {X : bX} {L : List (Option Value)} {S : List Value} {w : Wd} {w' : Wd} {a0 : Value} {a1 : Value} {x : Int32} (hX : bOk cc nL RL (d + 1) X) (hC : Con d yX9_ploughed cX9_ploughed 3 (some .int) [.ref 0, a0, a1] w (some (.int x)) w') (hr : (S.map fun v => v.category).sum ≤ 8) (hd : decode cc pc = .ok (.invokevirtual 84, 3)) (k : bV X (pc + 3) L (.int x :: S) w') : bV X pc L (a1 :: a0 :: .ref 0 :: S) w := V_callV (As := [a0, a1]) hX hC lk_RL_84 md_X9_ploughed iv_X9_ploughed co_X9_ploughed (Nat.le_of_ble_eq_true rfl) (Nat.le_of_ble_eq_true rfl) lay_0 rfl rfl hr hd k
theorem lk_RL_87 : lkOk RL 87 yX10_ploughed = true := by decide +kernel
theorem C_RL_87 {cc : ByteArray} {nL d pc : Nat} {X : bX} {L : List (Option Value)} {S : List Value} {w : Wd} {w' : Wd} {a0 : Value} {a1 : Value} {x : Int32} (hX : bOk cc nL RL (d + 1) X) (hC : Con d yX10_ploughed cX10_ploughed 3 (some .int) [.ref 33, a0, a1] w (some (.int x)) w') (hr : (S.map fun v => v.category).sum ≤ 8) (hd : decode cc pc = .ok (.invokevirtual 87, 3)) (k : bV X (pc + 3) L (.int x :: S) w') : bV X pc L (a1 :: a0 :: .ref 33 :: S) w := V_callV (As := [a0, a1]) hX hC lk_RL_87 md_X10_ploughed iv_X10_ploughed co_X10_ploughed (Nat.le_of_ble_eq_true rfl) (Nat.le_of_ble_eq_true rfl) lay_33 rfl rfl hr hd k
theorem lk_RL_88 : lkOk RL 88 yX9_peak = true := by decide +kernel
theorem C_RL_88 {cc : ByteArray} {nL d pc : Nat} {X : bX} {L : List (Option Value)} {S : List Value} {w : Wd} {w' : Wd} {a0 : Value} {x : Int32} (hX : bOk cc nL RL (d + 1) X) (hC : Con d yX9_peak cX9_peak 3 (some .int) [.ref 0, a0] w (some (.int x)) w') (hr : (S.map fun v => v.category).sum ≤ 8) (hd : decode cc pc = .ok (.invokevirtual 88, 3)) (k : bV X (pc + 3) L (.int x :: S) w') : bV X pc L (a0 :: .ref 0 :: S) w := V_callV (As := [a0]) hX hC lk_RL_88 md_X9_peak iv_X9_peak co_X9_peak (Nat.le_of_ble_eq_true rfl) (Nat.le_of_ble_eq_true rfl) lay_0 rfl rfl hr hd k
theorem lk_RL_91 : lkOk RL 91 yX10_peak = true := by decide +kernel
theorem C_RL_91 {cc : ByteArray} {nL d pc : Nat} {X : bX} {L : List (Option Value)} {S : List Value} {w : Wd} {w' : Wd} {a0 : Value} {x : Int32} (hX : bOk cc nL RL (d + 1) X) (hC : Con d yX10_peak cX10_peak 6 (some .int) [.ref 33, a0] w (some (.int x)) w') (hr : (S.map fun v => v.category).sum ≤ 8) (hd : decode cc pc = .ok (.invokevirtual 91, 3)) (k : bV X (pc + 3) L (.int x :: S) w') : bV X pc L (a0 :: .ref 33 :: S) w := V_callV (As := [a0]) hX hC lk_RL_91 md_X10_peak iv_X10_peak co_X10_peak (Nat.le_of_ble_eq_true rfl) (Nat.le_of_ble_eq_true rfl) lay_33 rfl rfl hr hd k
theorem lk_RL_92 : lkOk RL 92 yX9_terrier = true := by decide +kernel
theorem C_RL_92 {cc : ByteArray} {nL d pc : Nat} {X : bX} {L : List (Option Value)} {S : List Value} {w : Wd} {w' : Wd} {a0 : Value} {a1 : Value} {a2 : Value} {x : Int32} (hX : bOk cc nL RL (d + 1) X) (hC : Con d yX9_terrier cX9_terrier 4 (some .int) [.ref 0, a0, a1, a2] w (some (.int x)) w') (hr : (S.map fun v => v.category).sum ≤ 8) (hd : decode cc pc = .ok (.invokevirtual 92, 3)) (k : bV X (pc + 3) L (.int x :: S) w') : bV X pc L (a2 :: a1 :: a0 :: .ref 0 :: S) w := V_callV (As := [a0, a1, a2]) hX hC lk_RL_92 md_X9_terrier iv_X9_terrier co_X9_terrier (Nat.le_of_ble_eq_true rfl) (Nat.le_of_ble_eq_true rfl) lay_0 rfl rfl hr hd k
theorem lk_RL_95 : lkOk RL 95 yX10_terrier = true := by decide +kernel
theorem C_RL_95 {cc : ByteArray} {nL d pc : Nat} {X : bX} {L : List (Option Value)} {S : List Value} {w : Wd} {w' : Wd} {a0 : Value} {a1 : Value} {a2 : Value} {x : Int32} (hX : bOk cc nL RL (d + 1) X) (hC : Con d yX10_terrier cX10_terrier 5 (some .int) [.ref 33, a0, a1, a2] w (some (.int x)) w') (hr : (S.map fun v => v.category).sum ≤ 8) (hd : decode cc pc = .ok (.invokevirtual 95, 3)) (k : bV X (pc + 3) L (.int x :: S) w') : bV X pc L (a2 :: a1 :: a0 :: .ref 33 :: S) w := V_callV (As := [a0, a1, a2]) hX hC lk_RL_95 md_X10_terrier iv_X10_terrier co_X10_terrier (Nat.le_of_ble_eq_true rfl) (Nat.le_of_ble_eq_true rfl) lay_33 rfl rfl hr hd k
theorem lk_RL_96 : lkOk RL 96 yX9_given = true := by decide +kernel
theorem C_RL_96 {cc : ByteArray} {nL d pc : Nat} {X : bX} {L : List (Option Value)} {S : List Value} {w : Wd} {w' : Wd} {a0 : Value} {x : Int32} (hX : bOk cc nL RL (d + 1) X) (hC : Con d yX9_given cX9_given 2 (some .int) [.ref 0, a0] w (some (.int x)) w') (hr : (S.map fun v => v.category).sum ≤ 8) (hd : decode cc pc = .ok (.invokevirtual 96, 3)) (k : bV X (pc + 3) L (.int x :: S) w') : bV X pc L (a0 :: .ref 0 :: S) w := V_callV (As := [a0]) hX hC lk_RL_96 md_X9_given iv_X9_given co_X9_given (Nat.le_of_ble_eq_true rfl) (Nat.le_of_ble_eq_true rfl) lay_0 rfl rfl hr hd k
theorem lk_RL_99 : lkOk RL 99 yX10_given = true := by decide +kernel
theorem C_RL_99 {cc : ByteArray} {nL d pc : Nat} {X : bX} {L : List (Option Value)} {S : List Value} {w : Wd} {w' : Wd} {a0 : Value} {x : Int32} (hX : bOk cc nL RL (d + 1) X) (hC : Con d yX10_given cX10_given 2 (some .int) [.ref 33, a0] w (some (.int x)) w') (hr : (S.map fun v => v.category).sum ≤ 8) (hd : decode cc pc = .ok (.invokevirtual 99, 3)) (k : bV X (pc + 3) L (.int x :: S) w') : bV X pc L (a0 :: .ref 33 :: S) w := V_callV (As := [a0]) hX hC lk_RL_99 md_X10_given iv_X10_given co_X10_given (Nat.le_of_ble_eq_true rfl) (Nat.le_of_ble_eq_true rfl) lay_33 rfl rfl hr hd k
theorem lk_RL_100 : lkOk RL 100 yX9_holder = true := by decide +kernel
theorem C_RL_100 {cc : ByteArray} {nL d pc : Nat} {X : bX} {L : List (Option Value)} {S : List Value} {w : Wd} {w' : Wd} {a0 : Value} {a1 : Value} {x : Int32} (hX : bOk cc nL RL (d + 1) X) (hC : Con d yX9_holder cX9_holder 3 (some .int) [.ref 0, a0, a1] w (some (.int x)) w') (hr : (S.map fun v => v.category).sum ≤ 8) (hd : decode cc pc = .ok (.invokevirtual 100, 3)) (k : bV X (pc + 3) L (.int x :: S) w') : bV X pc L (a1 :: a0 :: .ref 0 :: S) w := V_callV (As := [a0, a1]) hX hC lk_RL_100 md_X9_holder iv_X9_holder co_X9_holder (Nat.le_of_ble_eq_true rfl) (Nat.le_of_ble_eq_true rfl) lay_0 rfl rfl hr hd k
theorem lk_RL_103 : lkOk RL 103 yX10_holder = true := by decide +kernel
theorem C_RL_103 {cc : ByteArray} {nL d pc : Nat} {X : bX} {L : List (Option Value)} {S : List Value} {w : Wd} {w' : Wd} {a0 : Value} {a1 : Value} {x : Int32} (hX : bOk cc nL RL (d + 1) X) (hC : Con d yX10_holder cX10_holder 4 (some .int) [.ref 33, a0, a1] w (some (.int x)) w') (hr : (S.map fun v => v.category).sum ≤ 8) (hd : decode cc pc = .ok (.invokevirtual 103, 3)) (k : bV X (pc + 3) L (.int x :: S) w') : bV X pc L (a1 :: a0 :: .ref 33 :: S) w := V_callV (As := [a0, a1]) hX hC lk_RL_103 md_X10_holder iv_X10_holder co_X10_holder (Nat.le_of_ble_eq_true rfl) (Nat.le_of_ble_eq_true rfl) lay_33 rfl rfl hr hd k
theorem lk_RL_104 : lkOk RL 104 yX9_round = true := by decide +kernel
theorem C_RL_104 {cc : ByteArray} {nL d pc : Nat} {X : bX} {L : List (Option Value)} {S : List Value} {w : Wd} {w' : Wd} {x : Int32} (hX : bOk cc nL RL (d + 1) X) (hC : Con d yX9_round cX9_round 1 (some .int) [.ref 0] w (some (.int x)) w') (hr : (S.map fun v => v.category).sum ≤ 8) (hd : decode cc pc = .ok (.invokevirtual 104, 3)) (k : bV X (pc + 3) L (.int x :: S) w') : bV X pc L (.ref 0 :: S) w := V_callV (As := []) hX hC lk_RL_104 md_X9_round iv_X9_round co_X9_round (Nat.le_of_ble_eq_true rfl) (Nat.le_of_ble_eq_true rfl) lay_0 rfl rfl hr hd k
theorem lk_RL_107 : lkOk RL 107 yX10_round = true := by decide +kernel
theorem C_RL_107 {cc : ByteArray} {nL d pc : Nat} {X : bX} {L : List (Option Value)} {S : List Value} {w : Wd} {w' : Wd} {x : Int32} (hX : bOk cc nL RL (d + 1) X) (hC : Con d yX10_round cX10_round 1 (some .int) [.ref 33] w (some (.int x)) w') (hr : (S.map fun v => v.category).sum ≤ 8) (hd : decode cc pc = .ok (.invokevirtual 107, 3)) (k : bV X (pc + 3) L (.int x :: S) w') : bV X pc L (.ref 33 :: S) w := V_callV (As := []) hX hC lk_RL_107 md_X10_round iv_X10_round co_X10_round (Nat.le_of_ble_eq_true rfl) (Nat.le_of_ble_eq_true rfl) lay_33 rfl rfl hr hd k
theorem lk_RL_108 : lkOk RL 108 yX9_whose = true := by decide +kernel
theorem C_RL_108 {cc : ByteArray} {nL d pc : Nat} {X : bX} {L : List (Option Value)} {S : List Value} {w : Wd} {w' : Wd} {a0 : Value} {x : Int32} (hX : bOk cc nL RL (d + 1) X) (hC : Con d yX9_whose cX9_whose 2 (some .int) [.ref 0, a0] w (some (.int x)) w') (hr : (S.map fun v => v.category).sum ≤ 8) (hd : decode cc pc = .ok (.invokevirtual 108, 3)) (k : bV X (pc + 3) L (.int x :: S) w') : bV X pc L (a0 :: .ref 0 :: S) w := V_callV (As := [a0]) hX hC lk_RL_108 md_X9_whose iv_X9_whose co_X9_whose (Nat.le_of_ble_eq_true rfl) (Nat.le_of_ble_eq_true rfl) lay_0 rfl rfl hr hd k
theorem lk_RL_111 : lkOk RL 111 yX10_whose = true := by decide +kernel
theorem C_RL_111 {cc : ByteArray} {nL d pc : Nat} {X : bX} {L : List (Option Value)} {S : List Value} {w : Wd} {w' : Wd} {a0 : Value} {x : Int32} (hX : bOk cc nL RL (d + 1) X) (hC : Con d yX10_whose cX10_whose 5 (some .int) [.ref 33, a0] w (some (.int x)) w') (hr : (S.map fun v => v.category).sum ≤ 8) (hd : decode cc pc = .ok (.invokevirtual 111, 3)) (k : bV X (pc + 3) L (.int x :: S) w') : bV X pc L (a0 :: .ref 33 :: S) w := V_callV (As := [a0]) hX hC lk_RL_111 md_X10_whose iv_X10_whose co_X10_whose (Nat.le_of_ble_eq_true rfl) (Nat.le_of_ble_eq_true rfl) lay_33 rfl rfl hr hd k
theorem lk_RL_112 : lkOk RL 112 yX9_picture = true := by decide +kernel
theorem C_RL_112 {cc : ByteArray} {nL d pc : Nat} {X : bX} {L : List (Option Value)} {S : List Value} {w : Wd} {w' : Wd} {a0 : Value} {a1 : Value} {a2 : Value} {x : Int32} (hX : bOk cc nL RL (d + 1) X) (hC : Con d yX9_picture cX9_picture 4 (some .int) [.ref 0, a0, a1, a2] w (some (.int x)) w') (hr : (S.map fun v => v.category).sum ≤ 8) (hd : decode cc pc = .ok (.invokevirtual 112, 3)) (k : bV X (pc + 3) L (.int x :: S) w') : bV X pc L (a2 :: a1 :: a0 :: .ref 0 :: S) w := V_callV (As := [a0, a1, a2]) hX hC lk_RL_112 md_X9_picture iv_X9_picture co_X9_picture (Nat.le_of_ble_eq_true rfl) (Nat.le_of_ble_eq_true rfl) lay_0 rfl rfl hr hd k
theorem lk_RL_115 : lkOk RL 115 yX10_picture = true := by decide +kernel
theorem C_RL_115 {cc : ByteArray} {nL d pc : Nat} {X : bX} {L : List (Option Value)} {S : List Value} {w : Wd} {w' : Wd} {a0 : Value} {a1 : Value} {a2 : Value} {x : Int32} (hX : bOk cc nL RL (d + 1) X) (hC : Con d yX10_picture cX10_picture 4 (some .int) [.ref 33, a0, a1, a2] w (some (.int x)) w') (hr : (S.map fun v => v.category).sum ≤ 8) (hd : decode cc pc = .ok (.invokevirtual 115, 3)) (k : bV X (pc + 3) L (.int x :: S) w') : bV X pc L (a2 :: a1 :: a0 :: .ref 33 :: S) w := V_callV (As := [a0, a1, a2]) hX hC lk_RL_115 md_X10_picture iv_X10_picture co_X10_picture (Nat.le_of_ble_eq_true rfl) (Nat.le_of_ble_eq_true rfl) lay_33 rfl rfl hr hd k
theorem lk_RL_116 : lkOk RL 116 yX9_shows = true := by decide +kernel
theorem C_RL_116 {cc : ByteArray} {nL d pc : Nat} {X : bX} {L : List (Option Value)} {S : List Value} {w : Wd} {w' : Wd} {a0 : Value} {a1 : Value} {x : Int32} (hX : bOk cc nL RL (d + 1) X) (hC : Con d yX9_shows cX9_shows 3 (some .int) [.ref 0, a0, a1] w (some (.int x)) w') (hr : (S.map fun v => v.category).sum ≤ 8) (hd : decode cc pc = .ok (.invokevirtual 116, 3)) (k : bV X (pc + 3) L (.int x :: S) w') : bV X pc L (a1 :: a0 :: .ref 0 :: S) w := V_callV (As := [a0, a1]) hX hC lk_RL_116 md_X9_shows iv_X9_shows co_X9_shows (Nat.le_of_ble_eq_true rfl) (Nat.le_of_ble_eq_true rfl) lay_0 rfl rfl hr hd k
theorem lk_RL_119 : lkOk RL 119 yX10_shows = true := by decide +kernel
theorem C_RL_119 {cc : ByteArray} {nL d pc : Nat} {X : bX} {L : List (Option Value)} {S : List Value} {w : Wd} {w' : Wd} {a0 : Value} {a1 : Value} {x : Int32} (hX : bOk cc nL RL (d + 1) X) (hC : Con d yX10_shows cX10_shows 3 (some .int) [.ref 33, a0, a1] w (some (.int x)) w') (hr : (S.map fun v => v.category).sum ≤ 8) (hd : decode cc pc = .ok (.invokevirtual 119, 3)) (k : bV X (pc + 3) L (.int x :: S) w') : bV X pc L (a1 :: a0 :: .ref 33 :: S) w := V_callV (As := [a0, a1]) hX hC lk_RL_119 md_X10_shows iv_X10_shows co_X10_shows (Nat.le_of_ble_eq_true rfl) (Nat.le_of_ble_eq_true rfl) lay_33 rfl rfl hr hd k
theorem lk_RL_120 : lkOk RL 120 yX9_seen = true := by decide +kernel
theorem C_RL_120 {cc : ByteArray} {nL d pc : Nat} {X : bX} {L : List (Option Value)} {S : List Value} {w : Wd} {w' : Wd} {a0 : Value} {x : Int32} (hX : bOk cc nL RL (d + 1) X) (hC : Con d yX9_seen cX9_seen 2 (some .int) [.ref 0, a0] w (some (.int x)) w') (hr : (S.map fun v => v.category).sum ≤ 8) (hd : decode cc pc = .ok (.invokevirtual 120, 3)) (k : bV X (pc + 3) L (.int x :: S) w') : bV X pc L (a0 :: .ref 0 :: S) w := V_callV (As := [a0]) hX hC lk_RL_120 md_X9_seen iv_X9_seen co_X9_seen (Nat.le_of_ble_eq_true rfl) (Nat.le_of_ble_eq_true rfl) lay_0 rfl rfl hr hd k
theorem lk_RL_123 : lkOk RL 123 yX10_seen = true := by decide +kernel
theorem C_RL_123 {cc : ByteArray} {nL d pc : Nat} {X : bX} {L : List (Option Value)} {S : List Value} {w : Wd} {w' : Wd} {a0 : Value} {x : Int32} (hX : bOk cc nL RL (d + 1) X) (hC : Con d yX10_seen cX10_seen 9 (some .int) [.ref 33, a0] w (some (.int x)) w') (hr : (S.map fun v => v.category).sum ≤ 8) (hd : decode cc pc = .ok (.invokevirtual 123, 3)) (k : bV X (pc + 3) L (.int x :: S) w') : bV X pc L (a0 :: .ref 33 :: S) w := V_callV (As := [a0]) hX hC lk_RL_123 md_X10_seen iv_X10_seen co_X10_seen (Nat.le_of_ble_eq_true rfl) (Nat.le_of_ble_eq_true rfl) lay_33 rfl rfl hr hd k
theorem lk_RL_124 : lkOk RL 124 yX9_count = true := by decide +kernel
theorem C_RL_124 {cc : ByteArray} {nL d pc : Nat} {X : bX} {L : List (Option Value)} {S : List Value} {w : Wd} {w' : Wd} {a0 : Value} {x : Int32} (hX : bOk cc nL RL (d + 1) X) (hC : Con d yX9_count cX9_count 2 (some .int) [.ref 0, a0] w (some (.int x)) w') (hr : (S.map fun v => v.category).sum ≤ 8) (hd : decode cc pc = .ok (.invokevirtual 124, 3)) (k : bV X (pc + 3) L (.int x :: S) w') : bV X pc L (a0 :: .ref 0 :: S) w := V_callV (As := [a0]) hX hC lk_RL_124 md_X9_count iv_X9_count co_X9_count (Nat.le_of_ble_eq_true rfl) (Nat.le_of_ble_eq_true rfl) lay_0 rfl rfl hr hd k
theorem lk_RL_127 : lkOk RL 127 yX10_count = true := by decide +kernel
theorem C_RL_127 {cc : ByteArray} {nL d pc : Nat} {X : bX} {L : List (Option Value)} {S : List Value} {w : Wd} {w' : Wd} {a0 : Value} {x : Int32} (hX : bOk cc nL RL (d + 1) X) (hC : Con d yX10_count cX10_count 4 (some .int) [.ref 33, a0] w (some (.int x)) w') (hr : (S.map fun v => v.category).sum ≤ 8) (hd : decode cc pc = .ok (.invokevirtual 127, 3)) (k : bV X (pc + 3) L (.int x :: S) w') : bV X pc L (a0 :: .ref 33 :: S) w := V_callV (As := [a0]) hX hC lk_RL_127 md_X10_count iv_X10_count co_X10_count (Nat.le_of_ble_eq_true rfl) (Nat.le_of_ble_eq_true rfl) lay_33 rfl rfl hr hd k
