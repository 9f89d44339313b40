/-! The JDK's own: String.length, String.charAt of the words' texts. -/
section JDK
variable {cc cy : ByteArray} {nL d pc i n ny : Nat} {own : String} {X : bX} {L : List (Option Value)} {S As : List Value} {w w' : Wd} {y : MethodName} {ry : Option FieldType} {rv : Option Value}
theorem V_i2c (hX : bOk cc nL own d X) {x : Int32} (hd : decode cc pc = .ok (.i2c, 1)) (k : bV X (pc + 1) L (.int (x.toUInt32 % 65536).toInt32 :: S) w) : bV X pc L (.int x :: S) w := by
  obtain ⟨p, l, e, R, s, m, args, below, meth, c, cells, slots, Qf, A, dC, dI, cA, ad, adV⟩ := X
  obtain ⟨hx, hb, hml, hown, hts, hK, hA, hlk, hfr, hlo, hce, hsl, hSt, hI, hAk⟩ := hX
  intro H locs ls hP hS hl
  exact lv_i2c hx hb hd rfl (k H locs ls hP hS hl)
theorem V_sval {j : Nat} (hX : bOk cc nL own d X) (hi : i < 12) (hc : inGd (.fieldLink own j "java/lang/String" "value" "[B") = true) (hd : decode cc pc = .ok (.getfield j, 3)) (k : bV X (pc + 3) L (.ref (90 + i) :: S) w) : bV X pc L (.ref (70 + i) :: S) w := by
  obtain ⟨p, l, e, R, s, m, args, below, meth, c, cells, slots, Qf, A, dC, dI, cA, ad, adV⟩ := X
  obtain ⟨hx, hb, hml, hown, hts, hK, hA, hlk, hfr, hlo, hce, hsl, hSt, hI, hAk⟩ := hX
  intro H locs ls hP hS hl
  exact vk_getf hx hb ((hSt.2.2.2.2.2.2.1.1 i hi).2.2.1) hS hown (hts _ (inGd_mem hc)) (fun _ h => h) hd (k H locs ls hP hS hl)
theorem V_scod {j : Nat} (hX : bOk cc nL own d X) (hi : i < 12) (hc : inGd (.fieldLink own j "java/lang/String" "coder" "B") = true) (hd : decode cc pc = .ok (.getfield j, 3)) (k : bV X (pc + 3) L (.int 0 :: S) w) : bV X pc L (.ref (70 + i) :: S) w := by
  obtain ⟨p, l, e, R, s, m, args, below, meth, c, cells, slots, Qf, A, dC, dI, cA, ad, adV⟩ := X
  obtain ⟨hx, hb, hml, hown, hts, hK, hA, hlk, hfr, hlo, hce, hsl, hSt, hI, hAk⟩ := hX
  intro H locs ls hP hS hl
  exact vk_getf hx hb ((hSt.2.2.2.2.2.2.1.1 i hi).2.1) hS hown (hts _ (inGd_mem hc)) (fun _ h => h) hd (k H locs ls hP hS hl)
theorem V_scs {j : Nat} (hX : bOk cc nL own d X) (hc : inGd (.fieldLink own j "java/lang/String" "COMPACT_STRINGS" "Z") = true) (hd : decode cc pc = .ok (.getstatic j, 3)) (k : bV X (pc + 3) L (.int 1 :: S) w) : bV X pc L S w := by
  obtain ⟨p, l, e, R, s, m, args, below, meth, c, cells, slots, Qf, A, dC, dI, cA, ad, adV⟩ := X
  obtain ⟨hx, hb, hml, hown, hts, hK, hA, hlk, hfr, hlo, hce, hsl, hSt, hI, hAk⟩ := hX
  intro H locs ls hP hS hl
  exact va_gets hx hb hSt.2.2.2.2.1.1 hS hown (hts _ (inGd_mem hc)) (fun _ h => h) hd (k H locs ls hP hS hl)
theorem V_slenB (hX : bOk cc nL own d X) (hi : i < 12) (hd : decode cc pc = .ok (.arraylength, 1)) (k : bV X (pc + 1) L (.int (nI (stl.getD i 0)) :: S) w) : bV X pc L (.ref (90 + i) :: S) w := by
  obtain ⟨p, l, e, R, s, m, args, below, meth, c, cells, slots, Qf, A, dC, dI, cA, ad, adV⟩ := X
  obtain ⟨hx, hb, hml, hown, hts, hK, hA, hlk, hfr, hlo, hce, hsl, hSt, hI, hAk⟩ := hX
  intro H locs ls hP hS hl
  exact va_tlen hx hb ((hSt.2.2.2.2.2.2.1.1 i hi).2.2.2) hS rfl hd (k H locs ls hP hS hl)
theorem V_saldB {x : Int32} (hX : bOk cc nL own d X) (hi : i < 12) (hin : vp_in x (stl.getD i 0)) (hd : decode cc pc = .ok (.baload, 1)) (k : bV X (pc + 1) L (.int ((stb.getD i []).getD (ix x) 0) :: S) w) : bV X pc L (.int x :: .ref (90 + i) :: S) w := by
  obtain ⟨p, l, e, R, s, m, args, below, meth, c, cells, slots, Qf, A, dC, dI, cA, ad, adV⟩ := X
  obtain ⟨hx, hb, hml, hown, hts, hK, hA, hlk, hfr, hlo, hce, hsl, hSt, hI, hAk⟩ := hX
  intro H locs ls hP hS hl
  exact va_tb hx hb ((hSt.2.2.2.2.2.2.1.1 i hi).2.2.2) hS hin rfl hd (k H locs ls hP hS hl)
theorem V_pop {v : Value} (hX : bOk cc nL own d X) (hd : decode cc pc = .ok (.pop, 1)) (hc : v.category = 1) (k : bV X (pc + 1) L S w) : bV X pc L (v :: S) w := by
  obtain ⟨p, l, e, R, s, m, args, below, meth, c, cells, slots, Qf, A, dC, dI, cA, ad, adV⟩ := X
  obtain ⟨hx, hb, hml, hown, hts, hK, hA, hlk, hfr, hlo, hce, hsl, hSt, hI, hAk⟩ := hX
  intro H locs ls hP hS hl
  exact lv_pop hx hb hd ((vm_cat ad v).trans hc) (k H locs ls hP hS hl)
theorem V_sio {j : Nat} (hX : bOk cc nL own d X) (hc : inGd (.fieldLink own j "jdk/internal/util/Preconditions" "SIOOBE_FORMATTER" "Ljava/util/function/BiFunction;") = true) (hd : decode cc pc = .ok (.getstatic j, 3)) (k : ∀ v : Value, v = .null ∨ v = .ref 62 → bV X (pc + 3) L (v :: S) w) : bV X pc L S w := by
  obtain ⟨p, l, e, R, s, m, args, below, meth, c, cells, slots, Qf, A, dC, dI, cA, ad, adV⟩ := X
  obtain ⟨hx, hb, hml, hown, hts, hK, hA, hlk, hfr, hlo, hce, hsl, hSt, hI, hAk⟩ := hX
  intro H locs ls hP hS hl
  rcases hSt.2.2.2.2.1.2 with h | h
  · exact va_gets hx hb h hS hown (hts _ (inGd_mem hc)) (fun _ h => h) hd (k .null (Or.inl rfl) H locs ls hP hS hl)
  · exact va_gets hx hb h hS hown (hts _ (inGd_mem hc)) (fun _ h => h) hd (k (.ref 62) (Or.inr rfl) H locs ls hP hS hl)
/-- a call on one of the words' texts -/
theorem V_callT {b j : Nat} (hX : bOk cc nL own (d + 1) X) (hC : Con d y cy ny ry (.ref b :: As) w rv w') (hb : 70 ≤ b ∧ b < 82) (hyc : y.cls = "java/lang/String") (hl : inGd (.methodLink own j y) = true) (hm : mdOk y n = true) (hv : ivOk y = true) (hco : inGd (.code y cy ny ry) = true) (hny : ny ≤ 21)
    (hn : As.length = n) (hr : (S.map fun v => v.category).sum ≤ 8) (hd : decode cc pc = .ok (.invokevirtual j, 3)) (k : bV X (pc + 3) L (rv.toList ++ S) w') : bV X pc L (As.reverse ++ .ref b :: S) w := by
  obtain ⟨i, rfl⟩ : ∃ i, b = 70 + i := ⟨b - 70, by omega⟩
  have hi : i < 12 := by omega
  obtain ⟨p, l, e, R, s, m, args, below, meth, c, cells, slots, Qf, A, dC, dI, cA, ad, adV⟩ := X
  obtain ⟨hx, hbc, hml, hown, hts, hK, hA, hlk, hfr, hlo, hce, hsl, hSt, hI, hAk⟩ := hX
  intro H locs ls hP hS hll
  simp only [mdOk, ivOk, Bool.and_eq_true, decide_eq_true_eq] at hm hv
  have hM := hC l dC dI cA ad adV H.size
  have hA1 : ∀ q, Aof ad H.size q → A q := fun q h => by
    rcases h with ⟨k, hk, rfl⟩ | h
    · exact hAk k hk
    · exact hA q (Nat.le_trans hS.1 h)
  have hpre : PreV s H y.cls (ad (70 + i)) (va_Pc (Value.ref (ad (70 + i)) :: As.map (vm ad)) (bPre dC dI cA ad adV H.size w)) (As.map (vm ad)) :=
    ⟨FB, by rw [hyc]; exact vk_recv (i := i) hSt.2.2.2.2.2.2.1 hi hS, fun U hU hW => ⟨rfl, by rw [hU], by rw [hU]; exact hP, va_K.moved hW.alike hK, hI, hSt.warm hW (fun q h1 h2 => by rw [hU]; exact hS.2.1 q h1 h2) hA1⟩⟩
  have hst : (As.reverse ++ .ref (70 + i) :: S).map (vm ad) = (As.map (vm ad)).reverse ++ .ref (ad (70 + i)) :: S.map (vm ad) := by
    rw [List.map_append, List.map_reverse]; rfl
  have hrm : (rmD d).frames + 1 ≤ R.frames ∧ 8 + (ny + 11) + (rmD d).locals ≤ R.locals := ⟨hfr, by show 8 + (ny + 11) + 40 * d ≤ R.locals; omega⟩
  refine callG (pc := pc) (?_ : va_Run p l e R s m args below meth c H locs cells slots 0 0 (F0 m pc ls ((As.reverse ++ .ref (70 + i) :: S).map (vm ad))) (S.map (vm ad)) (bQ dC dI cA ad rv w' (Aof ad H.size) (Value.ref (ad (70 + i)) :: As.map (vm ad)).toArray) (Aof ad H.size)) hS hA1 (fun H1 locs1 hP1 hS1 => by rw [opt_map]; exact k H1 locs1 ls hP1 hS1 hll)
  exact va_runV (C := y.cls) (n := n) (nL := nL) ⟨hx, hbc, hml, hown, hts⟩ hM ⟨callB_of n hts (gd_self hco) rfl rfl rfl (hts _ (inGd_mem hm.2.2)) (hts _ (inGd_mem hl)) ⟨hm.1.1, hm.1.2, hm.2.1⟩ hrm, hts _ (inGd_mem hv.1), hts _ (inGd_mem hv.2)⟩ hpre rfl (by simpa using hn) (hll.1.trans hml) hst (lv_room (cat_map S hr)) hd ⟨hce, hsl⟩
end JDK
theorem js_9 : inGd (.fieldLink RJ0 9 "java/lang/String" "value" "[B") = true := by decide +kernel
theorem js_15 : inGd (.fieldLink RJ0 15 "java/lang/String" "coder" "B") = true := by decide +kernel
theorem js_34 : inGd (.fieldLink RJ0 38 "java/lang/String" "COMPACT_STRINGS" "Z") = true := by decide +kernel
theorem js_sio : inGd (.fieldLink RJ0 1053 "jdk/internal/util/Preconditions" "SIOOBE_FORMATTER" "Ljava/util/function/BiFunction;") = true := by decide +kernel
theorem jl_9 : lkOk RJ1 9 yJ0_checkIndex_df160 = true := by decide +kernel
theorem jl_pre : lkOk RJ0 1059 yJ3_checkIndex_8e157 = true := by decide +kernel
theorem jm_9 : mdOk yJ0_checkIndex_df160 2 = true := by decide +kernel
theorem jm_pre : mdOk yJ3_checkIndex_8e157 3 = true := by decide +kernel
theorem ji_9 : isOk yJ0_checkIndex_df160 = true := by decide +kernel
theorem ji_pre : isOk yJ3_checkIndex_8e157 = true := by decide +kernel
theorem jo_9 : inGd (.code yJ0_checkIndex_df160 cJ0_checkIndex_df160 2 none) = true := by decide +kernel
theorem jo_pre : inGd (.code yJ3_checkIndex_8e157 cJ3_checkIndex_8e157 3 (some .int)) = true := by decide +kernel
theorem jl_315 : inGd (.methodLink RJ0 335 yJ0_coder_7d493) = true := by decide +kernel
theorem jl_469 : inGd (.methodLink RJ0 492 yJ0_isLatin1_aae02) = true := by decide +kernel
theorem jl_472 : lkOk RJ0 495 yJ1_charAt_3b067 = true := by decide +kernel
theorem jm_c : mdOk yJ0_coder_7d493 0 = true := by decide +kernel
theorem jm_l : mdOk yJ0_isLatin1_aae02 0 = true := by decide +kernel
theorem jm_1 : mdOk yJ1_charAt_3b067 2 = true := by decide +kernel
theorem ji_c : ivOk yJ0_coder_7d493 = true := by decide +kernel
theorem ji_l : ivOk yJ0_isLatin1_aae02 = true := by decide +kernel
theorem ji_1 : isOk yJ1_charAt_3b067 = true := by decide +kernel
theorem jo_c : inGd (.code yJ0_coder_7d493 cJ0_coder_7d493 1 (some .byte)) = true := by decide +kernel
theorem jo_l : inGd (.code yJ0_isLatin1_aae02 cJ0_isLatin1_aae02 1 (some .boolean)) = true := by decide +kernel
theorem jo_1 : inGd (.code yJ1_charAt_3b067 cJ1_charAt_3b067 2 (some .char)) = true := by decide +kernel
theorem c_coder {d i : Nat} (hi : i < 12) {w : Wd} : Con d yJ0_coder_7d493 cJ0_coder_7d493 1 (some .byte) [.ref (70 + i)] w (some (.int 0)) w := by
  refine Con_of (by decide) (Nat.le_of_ble_eq_true rfl) (fun X hX hE => ?_)
  have hX : bOk cJ0_coder_7d493 1 RJ0 d X := hX
  show bV X 0 [some (.ref (70 + i))] [] w
  refine V_scs hX js_34 dJ0_coder_7d493_0 ?_
  refine V_if_eq (tgt := 13) hX dJ0_coder_7d493_3 (by decide) (fun h => absurd h (by decide)) (fun _ => ?_)
  refine V_aload_n hX dJ0_coder_7d493_6 rfl rfl ?_
  refine V_scod hX hi js_15 dJ0_coder_7d493_7 ?_
  refine V_goto (tgt := 14) hX dJ0_coder_7d493_10 (by decide) ?_
  exact V_iret hX hE rfl dJ0_coder_7d493_14
theorem c_latin {d i : Nat} (hi : i < 12) {w : Wd} : Con d yJ0_isLatin1_aae02 cJ0_isLatin1_aae02 1 (some .boolean) [.ref (70 + i)] w (some (.int 1)) w := by
  refine Con_of (by decide) (Nat.le_of_ble_eq_true rfl) (fun X hX hE => ?_)
  have hX : bOk cJ0_isLatin1_aae02 1 RJ0 d X := hX
  show bV X 0 [some (.ref (70 + i))] [] w
  refine V_scs hX js_34 dJ0_isLatin1_aae02_0 ?_
  refine V_if_eq (tgt := 17) hX dJ0_isLatin1_aae02_3 (by decide) (fun h => absurd h (by decide)) (fun _ => ?_)
  refine V_aload_n hX dJ0_isLatin1_aae02_6 rfl rfl ?_
  refine V_scod hX hi js_15 dJ0_isLatin1_aae02_7 ?_
  refine V_if_ne (tgt := 17) hX dJ0_isLatin1_aae02_10 (by decide) (fun h => absurd rfl h) (fun _ => ?_)
  refine V_iconst hX dJ0_isLatin1_aae02_13 ic_1 ?_
  refine V_goto (tgt := 18) hX dJ0_isLatin1_aae02_14 (by decide) ?_
  exact V_iret hX hE rfl dJ0_isLatin1_aae02_18
/-- the signs of the words' texts are signs -/
theorem st_sign : ∀ i, i < 12 → ∀ j, j < 6 → ((((stb.getD i []).getD j 0) &&& 255).toUInt32 % 65536).toInt32 = (stb.getD i []).getD j 0 ∧ narrow .char (.int ((stb.getD i []).getD j 0)) = .int ((stb.getD i []).getD j 0) := by decide +kernel
theorem st_len : ∀ i, i < 12 → stl.getD i 0 ≤ 6 := by decide +kernel
theorem in_clamp {x : Int32} {n : Nat} (h : vp_in x n) (hn : n < 2 ^ 31) : ix x < n ∧ ¬ x < 0 ∧ x < nI n := by
  obtain ⟨j, hj, rfl⟩ := vp_in_of h hn
  refine ⟨?_, nI_pos (by omega), nI_lt hj hn⟩
  show (nI j).toNatClampNeg < n
  rw [nI_clamp (by omega)]; exact hj
theorem c_pre {d : Nat} {x y : Int32} (h2 : ¬ x < 0) (h3 : x < y) {v : Value} (hv : v = .null ∨ v = .ref 62) {w : Wd} : Con d yJ3_checkIndex_8e157 cJ3_checkIndex_8e157 3 (some .int) [.int x, .int y, v] w (some (.int x)) w := by
  refine Con_of (by decide) (by rcases hv with rfl | rfl <;> exact Nat.le_of_ble_eq_true rfl) (fun X hX hE => ?_)
  have hX : bOk cJ3_checkIndex_8e157 3 RJ3 d X := hX
  have key : bV X 0 [some (.int x), some (.int y), some v] [] w := by
    refine V_iload_n hX dJ3_checkIndex_8e157_0 rfl rfl ?_
    refine V_if_lt (tgt := 9) hX dJ3_checkIndex_8e157_1 (by decide) (fun h => absurd h h2) (fun _ => ?_)
    refine V_iload_n hX dJ3_checkIndex_8e157_4 rfl rfl ?_
    refine V_iload_n hX dJ3_checkIndex_8e157_5 rfl rfl ?_
    refine V_icmp_lt (tgt := 16) hX dJ3_checkIndex_8e157_6 (by decide) (fun _ => ?_) (fun h => absurd h3 h)
    refine V_iload_n hX dJ3_checkIndex_8e157_16 rfl rfl ?_
    exact V_iret hX hE rfl dJ3_checkIndex_8e157_17
  rcases hv with rfl | rfl <;> exact key
theorem c_ckx {d : Nat} (hd9 : 1 ≤ d) {x y : Int32} (h2 : ¬ x < 0) (h3 : x < y) {w : Wd} : Con d yJ0_checkIndex_df160 cJ0_checkIndex_df160 2 none [.int x, .int y] w none w := by
  refine Con_of (by decide) (Nat.le_of_ble_eq_true rfl) (fun X hX hE => ?_)
  have hX : bOk cJ0_checkIndex_df160 2 RJ0 d X := hX
  show bV X 0 [some (.int x), some (.int y)] [] w
  obtain ⟨d, rfl⟩ : ∃ e, d = e + 1 := ⟨d - 1, by omega⟩
  refine V_iload_n hX dJ0_checkIndex_df160_0 rfl rfl ?_
  refine V_iload_n hX dJ0_checkIndex_df160_1 rfl rfl ?_
  refine V_sio hX js_sio dJ0_checkIndex_df160_2 (fun v hv => ?_)
  refine V_callS (As := [.int x, .int y, v]) (S := []) (rv := some (.int x)) hX (c_pre h2 h3 hv) jl_pre jm_pre ji_pre jo_pre (by decide) rfl (by decide) dJ0_checkIndex_df160_5 ?_
  refine V_pop (v := .int x) (S := []) hX dJ0_checkIndex_df160_8 rfl ?_
  exact V_vret hX hE dJ0_checkIndex_df160_9
theorem c_lat1 {d i : Nat} (hd9 : 2 ≤ d) (hi : i < 12) {x : Int32} (hx : vp_in x (stl.getD i 0)) {w : Wd} : Con d yJ1_charAt_3b067 cJ1_charAt_3b067 2 (some .char) [.ref (90 + i), .int x] w (some (.int ((stb.getD i []).getD (ix x) 0))) w := by
  have hl := st_len i hi
  obtain ⟨h1, h2, h3⟩ := in_clamp hx (by omega)
  obtain ⟨s1, s2⟩ := st_sign i hi (ix x) (by omega)
  refine Con_of (by decide) (Nat.le_of_ble_eq_true rfl) (fun X hX hE => ?_)
  have hX : bOk cJ1_charAt_3b067 2 RJ1 d X := hX
  show bV X 0 [some (.ref (90 + i)), some (.int x)] [] w
  obtain ⟨d, rfl⟩ : ∃ e, d = e + 1 := ⟨d - 1, by omega⟩
  refine V_iload_n hX dJ1_charAt_3b067_0 rfl rfl ?_
  refine V_aload_n hX dJ1_charAt_3b067_1 rfl rfl ?_
  refine V_slenB hX hi dJ1_charAt_3b067_2 ?_
  refine V_callS (As := [.int x, .int (nI (stl.getD i 0))]) (S := []) (rv := none) hX (c_ckx (by omega) h2 h3) jl_9 jm_9 ji_9 jo_9 (by decide) rfl (by decide) dJ1_charAt_3b067_3 ?_
  show bV X 6 _ [] w
  refine V_aload_n hX dJ1_charAt_3b067_6 rfl rfl ?_
  refine V_iload_n hX dJ1_charAt_3b067_7 rfl rfl ?_
  refine V_saldB hX hi hx dJ1_charAt_3b067_8 ?_
  refine V_sipush (v := 255) hX dJ1_charAt_3b067_9 (by decide) ?_
  refine V_iand hX dJ1_charAt_3b067_12 ?_
  refine V_i2c hX dJ1_charAt_3b067_13 ?_
  rw [s1]
  exact V_iret hX hE s2 dJ1_charAt_3b067_14
def f_J0_length_8abf5 (b : Nat) (w : Wd) : Option (Int32 × Wd) := if 70 ≤ b ∧ b < 82 then some (nI (stl.getD (b - 70) 0), w) else none
theorem so_J0_length_8abf5 {b : Nat} {w : Wd} {r : Int32 × Wd} (h : f_J0_length_8abf5 b w = some r) : 70 ≤ b ∧ b < 82 := by
  unfold f_J0_length_8abf5 at h
  split at h
  · assumption
  · cases h
theorem c_J0_length_8abf5 {d : Nat} (hd9 : 1 ≤ d) {b : Nat} {w : Wd} {r : Int32 × Wd} (hr : f_J0_length_8abf5 b w = some r) : Con d yJ0_length_8abf5 cJ0_length_8abf5 1 (some .int) [.ref b] w (some (.int r.1)) r.2 := by
  have hb := so_J0_length_8abf5 hr
  unfold f_J0_length_8abf5 at hr
  rw [if_pos hb] at hr
  cases hr
  obtain ⟨i, rfl⟩ : ∃ i, b = 70 + i := ⟨b - 70, by omega⟩
  have hi : i < 12 := by omega
  rw [show 70 + i - 70 = i by omega]
  refine Con_of (by decide) (Nat.le_of_ble_eq_true rfl) (fun X hX hE => ?_)
  have hX : bOk cJ0_length_8abf5 1 RJ0 d X := hX
  show bV X 0 [some (.ref (70 + i))] [] w
  obtain ⟨d, rfl⟩ : ∃ e, d = e + 1 := ⟨d - 1, by omega⟩
  refine V_aload_n hX dJ0_length_8abf5_0 rfl rfl ?_
  refine V_sval hX hi js_9 dJ0_length_8abf5_1 ?_
  refine V_slenB hX hi dJ0_length_8abf5_4 ?_
  refine V_aload_n hX dJ0_length_8abf5_5 rfl rfl ?_
  refine V_callT (As := []) (S := [.int (nI (stl.getD i 0))]) (rv := some (.int 0)) hX (c_coder hi) (by omega) rfl jl_315 jm_c ji_c jo_c (by decide) rfl (Nat.le_of_ble_eq_true rfl) dJ0_length_8abf5_6 ?_
  show bV X 9 _ (.int 0 :: [.int (nI (stl.getD i 0))]) w
  refine V_ishr hX dJ0_length_8abf5_9 ?_
  rw [sb_shr0]
  exact V_iret hX hE rfl dJ0_length_8abf5_10
def f_J0_charAt_5068e (b : Nat) (x : Int32) (w : Wd) : Option (Int32 × Wd) := if 70 ≤ b ∧ b < 82 then (if inB x (stl.getD (b - 70) 0) then some ((stb.getD (b - 70) []).getD (ix x) 0, w) else none) else none
theorem so_J0_charAt_5068e {b : Nat} {x : Int32} {w : Wd} {r : Int32 × Wd} (h : f_J0_charAt_5068e b x w = some r) : 70 ≤ b ∧ b < 82 := by
  unfold f_J0_charAt_5068e at h
  split at h
  · assumption
  · cases h
theorem c_J0_charAt_5068e {d : Nat} (hd9 : 3 ≤ d) {b : Nat} {x : Int32} {w : Wd} {r : Int32 × Wd} (hr : f_J0_charAt_5068e b x w = some r) : Con d yJ0_charAt_5068e cJ0_charAt_5068e 2 (some .char) [.ref b, .int x] w (some (.int r.1)) r.2 := by
  have hb := so_J0_charAt_5068e hr
  unfold f_J0_charAt_5068e at hr
  rw [if_pos hb] at hr
  obtain ⟨hx, hr⟩ := ifn hr
  cases hr
  obtain ⟨i, rfl⟩ : ∃ i, b = 70 + i := ⟨b - 70, by omega⟩
  have hi : i < 12 := by omega
  rw [show 70 + i - 70 = i by omega] at hx ⊢
  have hl := st_len i hi
  obtain ⟨h1, h2, h3⟩ := in_clamp (inB_in hx) (by omega)
  obtain ⟨s1, s2⟩ := st_sign i hi (ix x) (by omega)
  refine Con_of (by decide) (Nat.le_of_ble_eq_true rfl) (fun X hX hE => ?_)
  have hX : bOk cJ0_charAt_5068e 2 RJ0 d X := hX
  show bV X 0 [some (.ref (70 + i)), some (.int x)] [] w
  obtain ⟨d, rfl⟩ : ∃ e, d = e + 1 := ⟨d - 1, by omega⟩
  refine V_aload_n hX dJ0_charAt_5068e_0 rfl rfl ?_
  refine V_callT (As := []) (S := []) (rv := some (.int 1)) hX (c_latin hi) (by omega) rfl jl_469 jm_l ji_l jo_l (by decide) rfl (by decide) dJ0_charAt_5068e_1 ?_
  show bV X 4 _ [.int 1] w
  refine V_if_eq (tgt := 16) hX dJ0_charAt_5068e_4 (by decide) (fun h => absurd h (by decide)) (fun _ => ?_)
  refine V_aload_n hX dJ0_charAt_5068e_7 rfl rfl ?_
  refine V_sval hX hi js_9 dJ0_charAt_5068e_8 ?_
  refine V_iload_n hX dJ0_charAt_5068e_11 rfl rfl ?_
  refine V_callS (As := [.ref (90 + i), .int x]) (S := []) (rv := some (.int ((stb.getD i []).getD (ix x) 0))) hX (c_lat1 (by omega) hi (inB_in hx)) jl_472 jm_1 ji_1 jo_1 (by decide) rfl (by decide) dJ0_charAt_5068e_12 ?_
  exact V_iret hX hE s2 dJ0_charAt_5068e_15
