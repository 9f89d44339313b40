/-- a row filled as far as i -/
def fC (c : Int32) (i : Nat) : Nat → Int32 := fun j => if j < i then c else 0
theorem fC_0 (c : Int32) : fC c 0 = fun _ => 0 := by funext j; simp [fC]
theorem fC_upd {c : Int32} {i : Nat} (hi : i < 2 ^ 31) : upd (fC c i) (ix (nI i)) c = fC c (i + 1) := by
  funext j
  rw [show ix (nI i) = i from nI_clamp hi]
  simp only [upd, fC]
  by_cases h : j = i
  · subst h; simp
  · rw [if_neg h]
    by_cases h2 : j < i
    · rw [if_pos h2, if_pos (by omega)]
    · rw [if_neg h2, if_neg (by omega)]
theorem fC_put {c : Int32} {i N : Nat} (hi : i < N) (hN : N < 2 ^ 31) : (if nI i < 0 then fC c i else if nI N ≤ nI i then fC c i else upd (fC c i) (ix (nI i)) c) = fC c (i + 1) := by
  rw [if_neg (nI_pos (by omega)), if_neg (nI_ge hi hN)]
  exact fC_upd (by omega)
/-- the cells in another order -/
theorem K_perm {kc ks pc : Nat} {X : bX} {L : List (Option Value)} {S : List Value} {ws ws2 : va_W} (is : List Nat) (h1 : is.map (fun i => ws[i]?) = ws2.map some) (h2 : va_nd is = true) (h3 : is.filterMap (fun i => ws[i]?) = ws2) (k : kV X kc ks pc L S ws2) : kV X kc ks pc L S ws := by
  obtain ⟨p, l, e, R, s, mm, args, below, meth, c, cells, slots, Qf, A, dC, dI, cA, ad, adV⟩ := X
  intro H locs ls hP hD hS hl
  exact k H locs ls (hP.sub is h3) (hD.sub is h2 h1) hS hl
theorem k_arr : inGd (.arrayClass .int) = true := by decide +kernel
theorem ko_RX6 : (inGd (.methodLink RX6 1 Lib.objectInit) && (inGd (.instanceMethod Lib.objectInit) && inGd (.code Lib.objectInit ⟨#[0xb1]⟩ 1 none))) = true := by decide +kernel
theorem kf_RX6_9 : flS RX6 9 6 0 = true := by decide +kernel
theorem kp_6_0 : pfOk RX6 6 0 (.array .int) true = true := by decide +kernel
theorem ko_RX4 : (inGd (.methodLink RX4 5 Lib.objectInit) && (inGd (.instanceMethod Lib.objectInit) && inGd (.code Lib.objectInit ⟨#[0xb1]⟩ 1 none))) = true := by decide +kernel
theorem kf_RX4_11 : flS RX4 11 4 1 = true := by decide +kernel
theorem kp_4_1 : pfOk RX4 4 1 (.array .int) true = true := by decide +kernel
theorem kf_RX4_15 : flS RX4 15 4 0 = true := by decide +kernel
theorem kp_4_0 : pfOk RX4 4 0 (.object "BentFurrows$Text") true = true := by decide +kernel
theorem ko_RX0 : (inGd (.methodLink RX0 3 Lib.objectInit) && (inGd (.instanceMethod Lib.objectInit) && inGd (.code Lib.objectInit ⟨#[0xb1]⟩ 1 none))) = true := by decide +kernel
theorem kf_RX0_11 : flS RX0 11 0 1 = true := by decide +kernel
theorem kp_0_1 : pfOk RX0 0 1 (.array .int) true = true := by decide +kernel
theorem kf_RX0_15 : flS RX0 15 0 2 = true := by decide +kernel
theorem kp_0_2 : pfOk RX0 0 2 (.array .int) true = true := by decide +kernel
theorem kf_RX0_18 : flS RX0 18 0 3 = true := by decide +kernel
theorem kp_0_3 : pfOk RX0 0 3 (.array .int) true = true := by decide +kernel
theorem kf_RX0_21 : flS RX0 21 0 4 = true := by decide +kernel
theorem kp_0_4 : pfOk RX0 0 4 (.array .int) true = true := by decide +kernel
theorem kf_RX0_24 : flS RX0 24 0 5 = true := by decide +kernel
theorem kp_0_5 : pfOk RX0 0 5 (.array .int) true = true := by decide +kernel
theorem kf_RX0_27 : flS RX0 27 0 8 = true := by decide +kernel
theorem kp_0_8 : pfOk RX0 0 8 (.array .int) true = true := by decide +kernel
theorem kf_RX0_30 : flS RX0 30 0 9 = true := by decide +kernel
theorem kp_0_9 : pfOk RX0 0 9 .int false = true := by decide +kernel
theorem kf_RX0_34 : flS RX0 34 0 10 = true := by decide +kernel
theorem kp_0_10 : pfOk RX0 0 10 .int false = true := by decide +kernel
theorem lq_RX0_37 : lkOk RX0 37 yX9_put = true := by decide +kernel
theorem ko_RX8 : (inGd (.methodLink RX8 3 Lib.objectInit) && (inGd (.instanceMethod Lib.objectInit) && inGd (.code Lib.objectInit ⟨#[0xb1]⟩ 1 none))) = true := by decide +kernel
theorem kf_RX8_9 : flS RX8 9 8 1 = true := by decide +kernel
theorem kp_8_1 : pfOk RX8 8 1 (.array .int) true = true := by decide +kernel
theorem kf_RX8_15 : flS RX8 15 8 2 = true := by decide +kernel
theorem kp_8_2 : pfOk RX8 8 2 (.array .int) true = true := by decide +kernel
theorem kf_RX8_18 : flS RX8 18 8 3 = true := by decide +kernel
theorem kp_8_3 : pfOk RX8 8 3 (.array .int) true = true := by decide +kernel
theorem kf_RX8_21 : flS RX8 21 8 4 = true := by decide +kernel
theorem kp_8_4 : pfOk RX8 8 4 (.array .int) true = true := by decide +kernel
theorem kf_RX8_24 : flS RX8 24 8 0 = true := by decide +kernel
theorem kp_8_0 : pfOk RX8 8 0 (.object "BentFurrows$Ground") true = true := by decide +kernel
theorem ko_RX1 : (inGd (.methodLink RX1 3 Lib.objectInit) && (inGd (.instanceMethod Lib.objectInit) && inGd (.code Lib.objectInit ⟨#[0xb1]⟩ 1 none))) = true := by decide +kernel
theorem kf_RX1_9 : flS RX1 9 1 2 = true := by decide +kernel
theorem kp_1_2 : pfOk RX1 1 2 (.array .int) true = true := by decide +kernel
theorem kf_RX1_15 : flS RX1 15 1 0 = true := by decide +kernel
theorem kp_1_0 : pfOk RX1 1 0 (.object "BentFurrows$Ground") true = true := by decide +kernel
theorem kf_RX1_19 : flS RX1 19 1 1 = true := by decide +kernel
theorem kp_1_1 : pfOk RX1 1 1 (.object "BentFurrows$Years") true = true := by decide +kernel
theorem ko_RX3 : (inGd (.methodLink RX3 3 Lib.objectInit) && (inGd (.instanceMethod Lib.objectInit) && inGd (.code Lib.objectInit ⟨#[0xb1]⟩ 1 none))) = true := by decide +kernel
theorem kf_RX3_9 : flS RX3 9 3 0 = true := by decide +kernel
theorem kp_3_0 : pfOk RX3 3 0 (.object "BentFurrows$Ground") true = true := by decide +kernel
theorem kf_RX3_15 : flS RX3 15 3 1 = true := by decide +kernel
theorem kp_3_1 : pfOk RX3 3 1 (.object "BentFurrows$Years") true = true := by decide +kernel
theorem ko_RX5 : (inGd (.methodLink RX5 3 Lib.objectInit) && (inGd (.instanceMethod Lib.objectInit) && inGd (.code Lib.objectInit ⟨#[0xb1]⟩ 1 none))) = true := by decide +kernel
theorem kf_RX5_11 : flS RX5 11 5 1 = true := by decide +kernel
theorem kp_5_1 : pfOk RX5 5 1 (.array .int) true = true := by decide +kernel
theorem kf_RX5_15 : flS RX5 15 5 2 = true := by decide +kernel
theorem kp_5_2 : pfOk RX5 5 2 (.array .int) true = true := by decide +kernel
theorem kf_RX5_18 : flS RX5 18 5 3 = true := by decide +kernel
theorem kp_5_3 : pfOk RX5 5 3 (.array .int) true = true := by decide +kernel
theorem kf_RX5_21 : flS RX5 21 5 4 = true := by decide +kernel
theorem kp_5_4 : pfOk RX5 5 4 (.array .int) true = true := by decide +kernel
theorem kf_RX5_24 : flS RX5 24 5 5 = true := by decide +kernel
theorem kp_5_5 : pfOk RX5 5 5 (.array .int) true = true := by decide +kernel
theorem kf_RX5_27 : flS RX5 27 5 6 = true := by decide +kernel
theorem kp_5_6 : pfOk RX5 5 6 (.array .int) true = true := by decide +kernel
theorem kf_RX5_30 : flS RX5 30 5 0 = true := by decide +kernel
theorem kp_5_0 : pfOk RX5 5 0 (.object "BentFurrows$Ground") true = true := by decide +kernel
theorem ko_RX7 : (inGd (.methodLink RX7 3 Lib.objectInit) && (inGd (.instanceMethod Lib.objectInit) && inGd (.code Lib.objectInit ⟨#[0xb1]⟩ 1 none))) = true := by decide +kernel
theorem kf_RX7_11 : flS RX7 11 7 0 = true := by decide +kernel
theorem kp_7_0 : pfOk RX7 7 0 (.array .int) true = true := by decide +kernel
theorem lq_RX7_15 : lkOk RX7 15 yX9_put = true := by decide +kernel
theorem ko_RX2 : (inGd (.methodLink RX2 3 Lib.objectInit) && (inGd (.instanceMethod Lib.objectInit) && inGd (.code Lib.objectInit ⟨#[0xb1]⟩ 1 none))) = true := by decide +kernel
theorem kf_RX2_11 : flS RX2 11 2 1 = true := by decide +kernel
theorem kp_2_1 : pfOk RX2 2 1 (.array .int) true = true := by decide +kernel
theorem kf_RX2_15 : flS RX2 15 2 2 = true := by decide +kernel
theorem kp_2_2 : pfOk RX2 2 2 (.array .int) true = true := by decide +kernel
theorem kf_RX2_18 : flS RX2 18 2 3 = true := by decide +kernel
theorem kp_2_3 : pfOk RX2 2 3 (.array .int) true = true := by decide +kernel
theorem kf_RX2_21 : flS RX2 21 2 0 = true := by decide +kernel
theorem kp_2_0 : pfOk RX2 2 0 (.object "BentFurrows$Ground") true = true := by decide +kernel
theorem ko_RX9 : (inGd (.methodLink RX9 1 Lib.objectInit) && (inGd (.instanceMethod Lib.objectInit) && inGd (.code Lib.objectInit ⟨#[0xb1]⟩ 1 none))) = true := by decide +kernel
theorem kn_RX9_7 : (inGd (.classLink RX9 7 RX6) && (inGd (.instantiable RX6 2) && inGd (.initialized RX6))) = true := by decide +kernel
theorem kt_6 : (List.range 2).all (fun a => (parseFieldDescriptor (TX6 a).2.2.1).isSome) = true := by decide +kernel
theorem kd_6 : ∀ j, j < 2 → defaultValue ((parseFieldDescriptor (TX6 j).2.2.1).getD .int) = vp_V [.null, .int 0] j := by decide +kernel
theorem lq_RX9_9 : lkOk RX9 9 yX6_init = true := by decide +kernel
theorem mq_X6_init : mdOk yX6_init 0 = true := by decide +kernel
theorem iq_X6_init : inGd (.instanceMethod yX6_init) = true := by decide +kernel
theorem oq_X6_init : inGd (.code yX6_init cX6_init 1 none) = true := by decide +kernel
theorem kf_RX9_10 : flS RX9 10 9 0 = true := by decide +kernel
theorem kp_9_0 : pfOk RX9 9 0 (.object "BentFurrows$Text") true = true := by decide +kernel
theorem kn_RX9_16 : (inGd (.classLink RX9 16 RX4) && (inGd (.instantiable RX4 5) && inGd (.initialized RX4))) = true := by decide +kernel
theorem kt_4 : (List.range 5).all (fun a => (parseFieldDescriptor (TX4 a).2.2.1).isSome) = true := by decide +kernel
theorem kd_4 : ∀ j, j < 5 → defaultValue ((parseFieldDescriptor (TX4 j).2.2.1).getD .int) = vp_V [.null, .null, .int 0, .int 0, .int 0] j := by decide +kernel
theorem lq_RX9_18 : lkOk RX9 18 yX4_init = true := by decide +kernel
theorem mq_X4_init : mdOk yX4_init 1 = true := by decide +kernel
theorem iq_X4_init : inGd (.instanceMethod yX4_init) = true := by decide +kernel
theorem oq_X4_init : inGd (.code yX4_init cX4_init 2 none) = true := by decide +kernel
theorem kf_RX9_21 : flS RX9 21 9 1 = true := by decide +kernel
theorem kp_9_1 : pfOk RX9 9 1 (.object "BentFurrows$Reader") true = true := by decide +kernel
theorem kn_RX9_25 : (inGd (.classLink RX9 25 RX0) && (inGd (.instantiable RX0 11) && inGd (.initialized RX0))) = true := by decide +kernel
theorem kt_0 : (List.range 11).all (fun a => (parseFieldDescriptor (TX0 a).2.2.1).isSome) = true := by decide +kernel
theorem kd_0 : ∀ j, j < 11 → defaultValue ((parseFieldDescriptor (TX0 j).2.2.1).getD .int) = vp_V [.int 0, .null, .null, .null, .null, .null, .int 0, .int 0, .null, .int 0, .int 0] j := by decide +kernel
theorem lq_RX9_27 : lkOk RX9 27 yX0_init = true := by decide +kernel
theorem mq_X0_init : mdOk yX0_init 0 = true := by decide +kernel
theorem iq_X0_init : inGd (.instanceMethod yX0_init) = true := by decide +kernel
theorem oq_X0_init : inGd (.code yX0_init cX0_init 2 none) = true := by decide +kernel
theorem kf_RX9_28 : flS RX9 28 9 2 = true := by decide +kernel
theorem kp_9_2 : pfOk RX9 9 2 (.object "BentFurrows$Ground") true = true := by decide +kernel
theorem kn_RX9_32 : (inGd (.classLink RX9 32 RX8) && (inGd (.instantiable RX8 5) && inGd (.initialized RX8))) = true := by decide +kernel
theorem kt_8 : (List.range 5).all (fun a => (parseFieldDescriptor (TX8 a).2.2.1).isSome) = true := by decide +kernel
theorem kd_8 : ∀ j, j < 5 → defaultValue ((parseFieldDescriptor (TX8 j).2.2.1).getD .int) = vp_V [.null, .null, .null, .null, .null] j := by decide +kernel
theorem lq_RX9_34 : lkOk RX9 34 yX8_init = true := by decide +kernel
theorem mq_X8_init : mdOk yX8_init 1 = true := by decide +kernel
theorem iq_X8_init : inGd (.instanceMethod yX8_init) = true := by decide +kernel
theorem oq_X8_init : inGd (.code yX8_init cX8_init 2 none) = true := by decide +kernel
theorem kf_RX9_37 : flS RX9 37 9 3 = true := by decide +kernel
theorem kp_9_3 : pfOk RX9 9 3 (.object "BentFurrows$Years") true = true := by decide +kernel
theorem kn_RX9_41 : (inGd (.classLink RX9 41 RX1) && (inGd (.instantiable RX1 3) && inGd (.initialized RX1))) = true := by decide +kernel
theorem kt_1 : (List.range 3).all (fun a => (parseFieldDescriptor (TX1 a).2.2.1).isSome) = true := by decide +kernel
theorem kd_1 : ∀ j, j < 3 → defaultValue ((parseFieldDescriptor (TX1 j).2.2.1).getD .int) = vp_V [.null, .null, .null] j := by decide +kernel
theorem lq_RX9_43 : lkOk RX9 43 yX1_init = true := by decide +kernel
theorem mq_X1_init : mdOk yX1_init 2 = true := by decide +kernel
theorem iq_X1_init : inGd (.instanceMethod yX1_init) = true := by decide +kernel
theorem oq_X1_init : inGd (.code yX1_init cX1_init 3 none) = true := by decide +kernel
theorem kf_RX9_46 : flS RX9 46 9 4 = true := by decide +kernel
theorem kp_9_4 : pfOk RX9 9 4 (.object "BentFurrows$Joints") true = true := by decide +kernel
theorem kn_RX9_50 : (inGd (.classLink RX9 50 RX3) && (inGd (.instantiable RX3 2) && inGd (.initialized RX3))) = true := by decide +kernel
theorem kt_3 : (List.range 2).all (fun a => (parseFieldDescriptor (TX3 a).2.2.1).isSome) = true := by decide +kernel
theorem kd_3 : ∀ j, j < 2 → defaultValue ((parseFieldDescriptor (TX3 j).2.2.1).getD .int) = vp_V [.null, .null] j := by decide +kernel
theorem lq_RX9_52 : lkOk RX9 52 yX3_init = true := by decide +kernel
theorem mq_X3_init : mdOk yX3_init 2 = true := by decide +kernel
theorem iq_X3_init : inGd (.instanceMethod yX3_init) = true := by decide +kernel
theorem oq_X3_init : inGd (.code yX3_init cX3_init 3 none) = true := by decide +kernel
theorem kf_RX9_53 : flS RX9 53 9 5 = true := by decide +kernel
theorem kp_9_5 : pfOk RX9 9 5 (.object "BentFurrows$Ploughland") true = true := by decide +kernel
theorem kn_RX9_57 : (inGd (.classLink RX9 57 RX5) && (inGd (.instantiable RX5 9) && inGd (.initialized RX5))) = true := by decide +kernel
theorem kt_5 : (List.range 9).all (fun a => (parseFieldDescriptor (TX5 a).2.2.1).isSome) = true := by decide +kernel
theorem kd_5 : ∀ j, j < 9 → defaultValue ((parseFieldDescriptor (TX5 j).2.2.1).getD .int) = vp_V [.null, .null, .null, .null, .null, .null, .null, .int 0, .int 0] j := by decide +kernel
theorem lq_RX9_59 : lkOk RX9 59 yX5_init = true := by decide +kernel
theorem mq_X5_init : mdOk yX5_init 1 = true := by decide +kernel
theorem iq_X5_init : inGd (.instanceMethod yX5_init) = true := by decide +kernel
theorem oq_X5_init : inGd (.code yX5_init cX5_init 2 none) = true := by decide +kernel
theorem kf_RX9_60 : flS RX9 60 9 6 = true := by decide +kernel
theorem kp_9_6 : pfOk RX9 9 6 (.object "BentFurrows$Terriers") true = true := by decide +kernel
theorem kn_RX9_64 : (inGd (.classLink RX9 64 RX7) && (inGd (.instantiable RX7 1) && inGd (.initialized RX7))) = true := by decide +kernel
theorem kt_7 : (List.range 1).all (fun a => (parseFieldDescriptor (TX7 a).2.2.1).isSome) = true := by decide +kernel
theorem kd_7 : ∀ j, j < 1 → defaultValue ((parseFieldDescriptor (TX7 j).2.2.1).getD .int) = vp_V [.null] j := by decide +kernel
theorem lq_RX9_66 : lkOk RX9 66 yX7_init = true := by decide +kernel
theorem mq_X7_init : mdOk yX7_init 0 = true := by decide +kernel
theorem iq_X7_init : inGd (.instanceMethod yX7_init) = true := by decide +kernel
theorem oq_X7_init : inGd (.code yX7_init cX7_init 2 none) = true := by decide +kernel
theorem kf_RX9_67 : flS RX9 67 9 7 = true := by decide +kernel
theorem kp_9_7 : pfOk RX9 9 7 (.object "BentFurrows$Turns") true = true := by decide +kernel
theorem kn_RX9_71 : (inGd (.classLink RX9 71 RX2) && (inGd (.instantiable RX2 5) && inGd (.initialized RX2))) = true := by decide +kernel
theorem kt_2 : (List.range 5).all (fun a => (parseFieldDescriptor (TX2 a).2.2.1).isSome) = true := by decide +kernel
theorem kd_2 : ∀ j, j < 5 → defaultValue ((parseFieldDescriptor (TX2 j).2.2.1).getD .int) = vp_V [.null, .null, .null, .null, .int 0] j := by decide +kernel
theorem lq_RX9_73 : lkOk RX9 73 yX2_init = true := by decide +kernel
theorem mq_X2_init : mdOk yX2_init 1 = true := by decide +kernel
theorem iq_X2_init : inGd (.instanceMethod yX2_init) = true := by decide +kernel
theorem oq_X2_init : inGd (.code yX2_init cX2_init 2 none) = true := by decide +kernel
theorem kf_RX9_74 : flS RX9 74 9 8 = true := by decide +kernel
theorem kp_9_8 : pfOk RX9 9 8 (.object "BentFurrows$Pictures") true = true := by decide +kernel
theorem ko_RX10 : (inGd (.methodLink RX10 1 Lib.objectInit) && (inGd (.instanceMethod Lib.objectInit) && inGd (.code Lib.objectInit ⟨#[0xb1]⟩ 1 none))) = true := by decide +kernel
theorem kf_RX10_7 : flS RX10 7 10 1 = true := by decide +kernel
theorem kp_10_1 : pfOk RX10 10 1 (.array .int) true = true := by decide +kernel
theorem kf_RX10_13 : flS RX10 13 10 2 = true := by decide +kernel
theorem kp_10_2 : pfOk RX10 10 2 (.array .int) true = true := by decide +kernel
theorem kf_RX10_16 : flS RX10 16 10 3 = true := by decide +kernel
theorem kp_10_3 : pfOk RX10 10 3 (.array .int) true = true := by decide +kernel
theorem kf_RX10_19 : flS RX10 19 10 4 = true := by decide +kernel
theorem kp_10_4 : pfOk RX10 10 4 (.array .int) true = true := by decide +kernel
theorem kf_RX10_22 : flS RX10 22 10 5 = true := by decide +kernel
theorem kp_10_5 : pfOk RX10 10 5 (.array .int) true = true := by decide +kernel
theorem kf_RX10_25 : flS RX10 25 10 6 = true := by decide +kernel
theorem kp_10_6 : pfOk RX10 10 6 (.array .int) true = true := by decide +kernel
theorem kf_RX10_28 : flS RX10 28 10 7 = true := by decide +kernel
theorem kp_10_7 : pfOk RX10 10 7 (.array .int) true = true := by decide +kernel
theorem kf_RX10_31 : flS RX10 31 10 9 = true := by decide +kernel
theorem kp_10_9 : pfOk RX10 10 9 (.array .int) true = true := by decide +kernel
theorem kf_RX10_34 : flS RX10 34 10 10 = true := by decide +kernel
theorem kp_10_10 : pfOk RX10 10 10 (.array .int) true = true := by decide +kernel
theorem kf_RX10_37 : flS RX10 37 10 12 = true := by decide +kernel
theorem kp_10_12 : pfOk RX10 10 12 (.array .int) true = true := by decide +kernel
theorem kf_RX10_40 : flS RX10 40 10 13 = true := by decide +kernel
theorem kp_10_13 : pfOk RX10 10 13 .int false = true := by decide +kernel
theorem kf_RX10_44 : flS RX10 44 10 14 = true := by decide +kernel
theorem kp_10_14 : pfOk RX10 10 14 .int false = true := by decide +kernel
theorem kf_RX10_47 : flS RX10 47 10 16 = true := by decide +kernel
theorem kp_10_16 : pfOk RX10 10 16 (.array .int) true = true := by decide +kernel
theorem kf_RX10_50 : flS RX10 50 10 24 = true := by decide +kernel
theorem kp_10_24 : pfOk RX10 10 24 (.array .int) true = true := by decide +kernel
theorem kf_RX10_53 : flS RX10 53 10 25 = true := by decide +kernel
theorem kp_10_25 : pfOk RX10 10 25 (.array .int) true = true := by decide +kernel
theorem kf_RX10_56 : flS RX10 56 10 26 = true := by decide +kernel
theorem kp_10_26 : pfOk RX10 10 26 (.array .int) true = true := by decide +kernel
theorem kf_RX10_59 : flS RX10 59 10 27 = true := by decide +kernel
theorem kp_10_27 : pfOk RX10 10 27 (.array .int) true = true := by decide +kernel
theorem kf_RX10_62 : flS RX10 62 10 28 = true := by decide +kernel
theorem kp_10_28 : pfOk RX10 10 28 (.array .int) true = true := by decide +kernel
theorem kf_RX10_65 : flS RX10 65 10 29 = true := by decide +kernel
theorem kp_10_29 : pfOk RX10 10 29 (.array .int) true = true := by decide +kernel
theorem kf_RX10_68 : flS RX10 68 10 30 = true := by decide +kernel
theorem kp_10_30 : pfOk RX10 10 30 (.array .int) true = true := by decide +kernel
theorem kf_RX10_71 : flS RX10 71 10 31 = true := by decide +kernel
theorem kp_10_31 : pfOk RX10 10 31 (.array .int) true = true := by decide +kernel
theorem kf_RX10_74 : flS RX10 74 10 34 = true := by decide +kernel
theorem kp_10_34 : pfOk RX10 10 34 (.array .int) true = true := by decide +kernel
theorem kf_RX10_77 : flS RX10 77 10 36 = true := by decide +kernel
theorem kp_10_36 : pfOk RX10 10 36 (.array .int) true = true := by decide +kernel
theorem kf_RX10_80 : flS RX10 80 10 37 = true := by decide +kernel
theorem kp_10_37 : pfOk RX10 10 37 (.array .int) true = true := by decide +kernel
theorem kf_RX10_83 : flS RX10 83 10 38 = true := by decide +kernel
theorem kp_10_38 : pfOk RX10 10 38 (.array .int) true = true := by decide +kernel
def wd_X6_init (cA : ClassId) (h0 : Nat) (u : List Nat) : va_W := [(h0, .inr (6, [.ref (u.getD 0 0), .int 0])), ((u.getD 0 0), .inl (cA, 200, .inl (fun _ => 0)))]
set_option maxRecDepth 100000 in
set_option maxHeartbeats 4000000 in
theorem k_X6_init {d : Nat} (hd9 : 1 ≤ d) {cA : ClassId} {h0 : Nat} : kCon d yX6_init cX6_init 1 1 200 cA [.ref h0] [(h0, .inr (6, [.null, .int 0]))] (wd_X6_init cA h0) := by
  refine kCon_of (by decide) (Nat.le_of_ble_eq_true rfl) (by intro v hv; simp at hv; rcases hv with rfl; rfl) (fun X hX hE hc hI => ?_)
  subst hc
  have hI := hI rfl
  have hX : kOk cX6_init 1 RX6 d 1 200 X := hX
  obtain ⟨d, rfl⟩ : ∃ e, d = e + 1 := ⟨d - 1, by omega⟩
  show kV X 0 0 0 [some (.ref h0)] [] [(h0, .inr (6, [.null, .int 0]))]
  refine K_aload_n hX dX6_init_0 rfl rfl ?_
  refine K_obj hX ko_RX6 (by omega) (Nat.le_of_ble_eq_true rfl) dX6_init_1 ?_
  refine K_aload_n hX dX6_init_4 rfl rfl ?_
  refine K_sipush (v := 200) hX dX6_init_5 (by decide) ?_
  refine K_newa (n := 200) hX k_arr (by decide) (by decide) (Nat.le_of_ble_eq_true rfl) (Nat.le_of_ble_eq_true rfl) dX6_init_8 (fun q1 => ?_)
  refine K_putF (q0 := 0) (ty := (.array .int)) hX hI kf_RX6_9 cl_6 kp_6_0 rfl (Nat.le_of_ble_eq_true rfl) rfl rfl dX6_init_10 ?_
  show kV X 1 200 13 [some (.ref h0)] [] [(h0, .inr (6, [.ref q1, .int 0])), (q1, .inl ((kA X), 200, .inl (fun _ => 0)))]
  exact K_vret hX hE [q1] rfl dX6_init_13
def wd_X4_init (cA : ClassId) (h0 : Nat) (r0 : Nat) (u : List Nat) : va_W := [(h0, .inr (4, [.ref r0, .ref (u.getD 0 0), .int 0, .int 0, .int 0])), ((u.getD 0 0), .inl (cA, 88, .inl (fun _ => 0)))]
set_option maxRecDepth 100000 in
set_option maxHeartbeats 4000000 in
theorem k_X4_init {d : Nat} (hd9 : 1 ≤ d) {cA : ClassId} {h0 : Nat} {r0 : Nat} : kCon d yX4_init cX4_init 2 1 88 cA [.ref h0, .ref r0] [(h0, .inr (4, [.null, .null, .int 0, .int 0, .int 0]))] (wd_X4_init cA h0 r0) := by
  refine kCon_of (by decide) (Nat.le_of_ble_eq_true rfl) (by intro v hv; simp at hv; rcases hv with rfl | rfl <;> rfl) (fun X hX hE hc hI => ?_)
  subst hc
  have hI := hI rfl
  have hX : kOk cX4_init 2 RX4 d 1 88 X := hX
  obtain ⟨d, rfl⟩ : ∃ e, d = e + 1 := ⟨d - 1, by omega⟩
  show kV X 0 0 0 [some (.ref h0), some (.ref r0)] [] [(h0, .inr (4, [.null, .null, .int 0, .int 0, .int 0]))]
  refine K_aload_n hX dX4_init_0 rfl rfl ?_
  refine K_obj hX ko_RX4 (by omega) (Nat.le_of_ble_eq_true rfl) dX4_init_1 ?_
  refine K_aload_n hX dX4_init_4 rfl rfl ?_
  refine K_bipush (v := 88) hX dX4_init_5 (by decide) ?_
  refine K_newa (n := 88) hX k_arr (by decide) (by decide) (Nat.le_of_ble_eq_true rfl) (Nat.le_of_ble_eq_true rfl) dX4_init_7 (fun q1 => ?_)
  refine K_putF (q0 := 0) (ty := (.array .int)) hX hI kf_RX4_11 cl_4 kp_4_1 rfl (Nat.le_of_ble_eq_true rfl) rfl rfl dX4_init_9 ?_
  show kV X 1 88 12 [some (.ref h0), some (.ref r0)] [] [(h0, .inr (4, [.null, .ref q1, .int 0, .int 0, .int 0])), (q1, .inl ((kA X), 88, .inl (fun _ => 0)))]
  refine K_aload_n hX dX4_init_12 rfl rfl ?_
  refine K_aload_n hX dX4_init_13 rfl rfl ?_
  refine K_putF (q0 := 0) (ty := (.object "BentFurrows$Text")) hX hI kf_RX4_15 cl_4 kp_4_0 rfl (Nat.le_of_ble_eq_true rfl) rfl rfl dX4_init_14 ?_
  show kV X 1 88 17 [some (.ref h0), some (.ref r0)] [] [(h0, .inr (4, [.ref r0, .ref q1, .int 0, .int 0, .int 0])), (q1, .inl ((kA X), 88, .inl (fun _ => 0)))]
  exact K_vret hX hE [q1] rfl dX4_init_17
def wd_X0_init (cA : ClassId) (h0 : Nat) (u : List Nat) : va_W := [(h0, .inr (0, [.int 0, .ref (u.getD 0 0), .ref (u.getD 1 0), .ref (u.getD 2 0), .ref (u.getD 3 0), .ref (u.getD 4 0), .int 0, .int 0, .ref (u.getD 5 0), .int 2, .int 20])), ((u.getD 0 0), .inl (cA, 72, .inl (fun _ => 0))), ((u.getD 1 0), .inl (cA, 56, .inl (fun _ => 0))), ((u.getD 2 0), .inl (cA, 14, .inl (fun _ => 0))), ((u.getD 3 0), .inl (cA, 14, .inl (fC 2000 14))), ((u.getD 4 0), .inl (cA, 14, .inl (fun _ => 0))), ((u.getD 5 0), .inl (cA, 52, .inl (fun _ => 0)))]
set_option maxRecDepth 100000 in
set_option maxHeartbeats 4000000 in
theorem kl_X0_init {d mc ms kc ks h0 q1 q2 q3 q4 q5 q6 : Nat} {X : bX} (hX : kOk cX0_init 2 RX0 (d + 1) mc ms X) (hkc : kc ≤ mc) (hks : ks ≤ ms)
    (hend : kV X kc ks 88 [some (.ref h0), some (.int (nI 14))] [] [(h0, .inr (0, [.int 0, .ref q1, .ref q2, .ref q3, .ref q4, .ref q5, .int 0, .int 0, .ref q6, .int 2, .int 20])), (q1, .inl ((kA X), 72, .inl (fun _ => 0))), (q2, .inl ((kA X), 56, .inl (fun _ => 0))), (q3, .inl ((kA X), 14, .inl (fun _ => 0))), (q5, .inl ((kA X), 14, .inl (fun _ => 0))), (q6, .inl ((kA X), 52, .inl (fun _ => 0))), (q4, .inl ((kA X), 14, .inl (fC 2000 14)))]) : ∀ (n i : Nat), i + n = 14 → kV X kc ks 65 [some (.ref h0), some (.int (nI i))] [] [(h0, .inr (0, [.int 0, .ref q1, .ref q2, .ref q3, .ref q4, .ref q5, .int 0, .int 0, .ref q6, .int 2, .int 20])), (q1, .inl ((kA X), 72, .inl (fun _ => 0))), (q2, .inl ((kA X), 56, .inl (fun _ => 0))), (q3, .inl ((kA X), 14, .inl (fun _ => 0))), (q5, .inl ((kA X), 14, .inl (fun _ => 0))), (q6, .inl ((kA X), 52, .inl (fun _ => 0))), (q4, .inl ((kA X), 14, .inl (fC 2000 i)))]
  | 0, i, hi => by
    have hi : i = 14 := by omega
    subst hi
    refine K_iload_n hX dX0_init_65 rfl rfl ?_
    refine K_bipush (v := 14) hX dX0_init_66 (by decide) ?_
    refine K_icmp_ge (tgt := 88) hX dX0_init_68 (by decide) (fun _ => hend) (fun h => absurd (by decide) h)
  | n + 1, i, hi => by
    refine K_iload_n hX dX0_init_65 rfl rfl ?_
    refine K_bipush (v := 14) hX dX0_init_66 (by decide) ?_
    refine K_icmp_ge (tgt := 88) hX dX0_init_68 (by decide) (fun h => absurd h (nI_ge (a := i) (b := 14) (by omega) (by decide))) (fun _ => ?_)
    refine K_aload_n hX dX0_init_71 rfl rfl ?_
    refine K_getf (q0 := 0) hX kf_RX0_21 cl_0 rfl rfl dX0_init_72 ?_
    refine K_iload_n hX dX0_init_75 rfl rfl ?_
    refine K_sipush (v := 2000) hX dX0_init_76 (by decide) ?_
    refine K_callP (q0 := 6) (S := []) (wr := [(h0, .inr (0, [.int 0, .ref q1, .ref q2, .ref q3, .ref q4, .ref q5, .int 0, .int 0, .ref q6, .int 2, .int 20])), (q1, .inl ((kA X), 72, .inl (fun _ => 0))), (q2, .inl ((kA X), 56, .inl (fun _ => 0))), (q3, .inl ((kA X), 14, .inl (fun _ => 0))), (q5, .inl ((kA X), 14, .inl (fun _ => 0))), (q6, .inl ((kA X), 52, .inl (fun _ => 0)))]) (d := d) hX (k_put (by decide)) lq_RX0_37 md_X9_put iv_X9_put co_X9_put (Nat.le_of_ble_eq_true rfl) [0, 1, 2, 3, 4, 5] rfl rfl rfl (by decide) (Nat.le_of_ble_eq_true rfl) hkc hks dX0_init_79 (fun _ => ?_)
    refine K_iinc hX dX0_init_82 rfl (nI_1 i) (Nat.le_of_ble_eq_true rfl) rfl ?_
    refine K_goto (tgt := 65) hX dX0_init_85 (by decide) ?_
    have e := kl_X0_init hX hkc hks hend n (i + 1) (by omega)
    rw [← fC_put (N := 14) (by omega) (by decide)] at e
    exact e
set_option maxRecDepth 100000 in
set_option maxHeartbeats 4000000 in
theorem k_X0_init {d : Nat} (hd9 : 1 ≤ d) {cA : ClassId} {h0 : Nat} : kCon d yX0_init cX0_init 2 6 222 cA [.ref h0] [(h0, .inr (0, [.int 0, .null, .null, .null, .null, .null, .int 0, .int 0, .null, .int 0, .int 0]))] (wd_X0_init cA h0) := by
  refine kCon_of (by decide) (Nat.le_of_ble_eq_true rfl) (by intro v hv; simp at hv; rcases hv with rfl; rfl) (fun X hX hE hc hI => ?_)
  subst hc
  have hI := hI rfl
  have hX : kOk cX0_init 2 RX0 d 6 222 X := hX
  obtain ⟨d, rfl⟩ : ∃ e, d = e + 1 := ⟨d - 1, by omega⟩
  show kV X 0 0 0 [some (.ref h0), none] [] [(h0, .inr (0, [.int 0, .null, .null, .null, .null, .null, .int 0, .int 0, .null, .int 0, .int 0]))]
  refine K_aload_n hX dX0_init_0 rfl rfl ?_
  refine K_obj hX ko_RX0 (by omega) (Nat.le_of_ble_eq_true rfl) dX0_init_1 ?_
  refine K_aload_n hX dX0_init_4 rfl rfl ?_
  refine K_bipush (v := 72) hX dX0_init_5 (by decide) ?_
  refine K_newa (n := 72) hX k_arr (by decide) (by decide) (Nat.le_of_ble_eq_true rfl) (Nat.le_of_ble_eq_true rfl) dX0_init_7 (fun q1 => ?_)
  refine K_putF (q0 := 0) (ty := (.array .int)) hX hI kf_RX0_11 cl_0 kp_0_1 rfl (Nat.le_of_ble_eq_true rfl) rfl rfl dX0_init_9 ?_
  show kV X 1 72 12 [some (.ref h0), none] [] [(h0, .inr (0, [.int 0, .ref q1, .null, .null, .null, .null, .int 0, .int 0, .null, .int 0, .int 0])), (q1, .inl ((kA X), 72, .inl (fun _ => 0)))]
  refine K_aload_n hX dX0_init_12 rfl rfl ?_
  refine K_bipush (v := 56) hX dX0_init_13 (by decide) ?_
  refine K_newa (n := 56) hX k_arr (by decide) (by decide) (Nat.le_of_ble_eq_true rfl) (Nat.le_of_ble_eq_true rfl) dX0_init_15 (fun q2 => ?_)
  refine K_putF (q0 := 0) (ty := (.array .int)) hX hI kf_RX0_15 cl_0 kp_0_2 rfl (Nat.le_of_ble_eq_true rfl) rfl rfl dX0_init_17 ?_
  show kV X 2 128 20 [some (.ref h0), none] [] [(h0, .inr (0, [.int 0, .ref q1, .ref q2, .null, .null, .null, .int 0, .int 0, .null, .int 0, .int 0])), (q1, .inl ((kA X), 72, .inl (fun _ => 0))), (q2, .inl ((kA X), 56, .inl (fun _ => 0)))]
  refine K_aload_n hX dX0_init_20 rfl rfl ?_
  refine K_bipush (v := 14) hX dX0_init_21 (by decide) ?_
  refine K_newa (n := 14) hX k_arr (by decide) (by decide) (Nat.le_of_ble_eq_true rfl) (Nat.le_of_ble_eq_true rfl) dX0_init_23 (fun q3 => ?_)
  refine K_putF (q0 := 0) (ty := (.array .int)) hX hI kf_RX0_18 cl_0 kp_0_3 rfl (Nat.le_of_ble_eq_true rfl) rfl rfl dX0_init_25 ?_
  show kV X 3 142 28 [some (.ref h0), none] [] [(h0, .inr (0, [.int 0, .ref q1, .ref q2, .ref q3, .null, .null, .int 0, .int 0, .null, .int 0, .int 0])), (q1, .inl ((kA X), 72, .inl (fun _ => 0))), (q2, .inl ((kA X), 56, .inl (fun _ => 0))), (q3, .inl ((kA X), 14, .inl (fun _ => 0)))]
  refine K_aload_n hX dX0_init_28 rfl rfl ?_
  refine K_bipush (v := 14) hX dX0_init_29 (by decide) ?_
  refine K_newa (n := 14) hX k_arr (by decide) (by decide) (Nat.le_of_ble_eq_true rfl) (Nat.le_of_ble_eq_true rfl) dX0_init_31 (fun q4 => ?_)
  refine K_putF (q0 := 0) (ty := (.array .int)) hX hI kf_RX0_21 cl_0 kp_0_4 rfl (Nat.le_of_ble_eq_true rfl) rfl rfl dX0_init_33 ?_
  show kV X 4 156 36 [some (.ref h0), none] [] [(h0, .inr (0, [.int 0, .ref q1, .ref q2, .ref q3, .ref q4, .null, .int 0, .int 0, .null, .int 0, .int 0])), (q1, .inl ((kA X), 72, .inl (fun _ => 0))), (q2, .inl ((kA X), 56, .inl (fun _ => 0))), (q3, .inl ((kA X), 14, .inl (fun _ => 0))), (q4, .inl ((kA X), 14, .inl (fun _ => 0)))]
  refine K_aload_n hX dX0_init_36 rfl rfl ?_
  refine K_bipush (v := 14) hX dX0_init_37 (by decide) ?_
  refine K_newa (n := 14) hX k_arr (by decide) (by decide) (Nat.le_of_ble_eq_true rfl) (Nat.le_of_ble_eq_true rfl) dX0_init_39 (fun q5 => ?_)
  refine K_putF (q0 := 0) (ty := (.array .int)) hX hI kf_RX0_24 cl_0 kp_0_5 rfl (Nat.le_of_ble_eq_true rfl) rfl rfl dX0_init_41 ?_
  show kV X 5 170 44 [some (.ref h0), none] [] [(h0, .inr (0, [.int 0, .ref q1, .ref q2, .ref q3, .ref q4, .ref q5, .int 0, .int 0, .null, .int 0, .int 0])), (q1, .inl ((kA X), 72, .inl (fun _ => 0))), (q2, .inl ((kA X), 56, .inl (fun _ => 0))), (q3, .inl ((kA X), 14, .inl (fun _ => 0))), (q4, .inl ((kA X), 14, .inl (fun _ => 0))), (q5, .inl ((kA X), 14, .inl (fun _ => 0)))]
  refine K_aload_n hX dX0_init_44 rfl rfl ?_
  refine K_bipush (v := 52) hX dX0_init_45 (by decide) ?_
  refine K_newa (n := 52) hX k_arr (by decide) (by decide) (Nat.le_of_ble_eq_true rfl) (Nat.le_of_ble_eq_true rfl) dX0_init_47 (fun q6 => ?_)
  refine K_putF (q0 := 0) (ty := (.array .int)) hX hI kf_RX0_27 cl_0 kp_0_8 rfl (Nat.le_of_ble_eq_true rfl) rfl rfl dX0_init_49 ?_
  show kV X 6 222 52 [some (.ref h0), none] [] [(h0, .inr (0, [.int 0, .ref q1, .ref q2, .ref q3, .ref q4, .ref q5, .int 0, .int 0, .ref q6, .int 0, .int 0])), (q1, .inl ((kA X), 72, .inl (fun _ => 0))), (q2, .inl ((kA X), 56, .inl (fun _ => 0))), (q3, .inl ((kA X), 14, .inl (fun _ => 0))), (q4, .inl ((kA X), 14, .inl (fun _ => 0))), (q5, .inl ((kA X), 14, .inl (fun _ => 0))), (q6, .inl ((kA X), 52, .inl (fun _ => 0)))]
  refine K_aload_n hX dX0_init_52 rfl rfl ?_
  refine K_iconst (v := 2) hX dX0_init_53 (by decide) ?_
  refine K_putI (q0 := 0) hX kf_RX0_30 cl_0 kp_0_9 rfl (Nat.le_of_ble_eq_true rfl) dX0_init_54 ?_
  show kV X 6 222 57 [some (.ref h0), none] [] [(h0, .inr (0, [.int 0, .ref q1, .ref q2, .ref q3, .ref q4, .ref q5, .int 0, .int 0, .ref q6, .int 2, .int 0])), (q1, .inl ((kA X), 72, .inl (fun _ => 0))), (q2, .inl ((kA X), 56, .inl (fun _ => 0))), (q3, .inl ((kA X), 14, .inl (fun _ => 0))), (q4, .inl ((kA X), 14, .inl (fun _ => 0))), (q5, .inl ((kA X), 14, .inl (fun _ => 0))), (q6, .inl ((kA X), 52, .inl (fun _ => 0)))]
  refine K_aload_n hX dX0_init_57 rfl rfl ?_
  refine K_bipush (v := 20) hX dX0_init_58 (by decide) ?_
  refine K_putI (q0 := 0) hX kf_RX0_34 cl_0 kp_0_10 rfl (Nat.le_of_ble_eq_true rfl) dX0_init_60 ?_
  show kV X 6 222 63 [some (.ref h0), none] [] [(h0, .inr (0, [.int 0, .ref q1, .ref q2, .ref q3, .ref q4, .ref q5, .int 0, .int 0, .ref q6, .int 2, .int 20])), (q1, .inl ((kA X), 72, .inl (fun _ => 0))), (q2, .inl ((kA X), 56, .inl (fun _ => 0))), (q3, .inl ((kA X), 14, .inl (fun _ => 0))), (q4, .inl ((kA X), 14, .inl (fun _ => 0))), (q5, .inl ((kA X), 14, .inl (fun _ => 0))), (q6, .inl ((kA X), 52, .inl (fun _ => 0)))]
  refine K_iconst (v := 0) hX dX0_init_63 (by decide) ?_
  refine K_istore_n hX dX0_init_64 rfl (Nat.le_of_ble_eq_true rfl) rfl ?_
  refine K_perm [0, 1, 2, 3, 5, 6, 4] (ws2 := [(h0, .inr (0, [.int 0, .ref q1, .ref q2, .ref q3, .ref q4, .ref q5, .int 0, .int 0, .ref q6, .int 2, .int 20])), (q1, .inl ((kA X), 72, .inl (fun _ => 0))), (q2, .inl ((kA X), 56, .inl (fun _ => 0))), (q3, .inl ((kA X), 14, .inl (fun _ => 0))), (q5, .inl ((kA X), 14, .inl (fun _ => 0))), (q6, .inl ((kA X), 52, .inl (fun _ => 0))), (q4, .inl ((kA X), 14, .inl (fun _ => 0)))]) rfl rfl rfl ?_
  have e0 := fC_0 2000
  rw [← e0]
  refine kl_X0_init hX (Nat.le_of_ble_eq_true rfl) (Nat.le_of_ble_eq_true rfl) ?_ 14 0 rfl
  refine K_perm [0, 1, 2, 3, 6, 4, 5] (ws2 := [(h0, .inr (0, [.int 0, .ref q1, .ref q2, .ref q3, .ref q4, .ref q5, .int 0, .int 0, .ref q6, .int 2, .int 20])), (q1, .inl ((kA X), 72, .inl (fun _ => 0))), (q2, .inl ((kA X), 56, .inl (fun _ => 0))), (q3, .inl ((kA X), 14, .inl (fun _ => 0))), (q4, .inl ((kA X), 14, .inl (fC 2000 14))), (q5, .inl ((kA X), 14, .inl (fun _ => 0))), (q6, .inl ((kA X), 52, .inl (fun _ => 0)))]) rfl rfl rfl ?_
  exact K_vret hX hE [q1, q2, q3, q4, q5, q6] rfl dX0_init_88
def wd_X8_init (cA : ClassId) (h0 : Nat) (r0 : Nat) (u : List Nat) : va_W := [(h0, .inr (8, [.ref r0, .ref (u.getD 0 0), .ref (u.getD 1 0), .ref (u.getD 2 0), .ref (u.getD 3 0)])), ((u.getD 0 0), .inl (cA, 14, .inl (fun _ => 0))), ((u.getD 1 0), .inl (cA, 14, .inl (fun _ => 0))), ((u.getD 2 0), .inl (cA, 14, .inl (fun _ => 0))), ((u.getD 3 0), .inl (cA, 14, .inl (fun _ => 0)))]
set_option maxRecDepth 100000 in
set_option maxHeartbeats 4000000 in
theorem k_X8_init {d : Nat} (hd9 : 1 ≤ d) {cA : ClassId} {h0 : Nat} {r0 : Nat} : kCon d yX8_init cX8_init 2 4 56 cA [.ref h0, .ref r0] [(h0, .inr (8, [.null, .null, .null, .null, .null]))] (wd_X8_init cA h0 r0) := by
  refine kCon_of (by decide) (Nat.le_of_ble_eq_true rfl) (by intro v hv; simp at hv; rcases hv with rfl | rfl <;> rfl) (fun X hX hE hc hI => ?_)
  subst hc
  have hI := hI rfl
  have hX : kOk cX8_init 2 RX8 d 4 56 X := hX
  obtain ⟨d, rfl⟩ : ∃ e, d = e + 1 := ⟨d - 1, by omega⟩
  show kV X 0 0 0 [some (.ref h0), some (.ref r0)] [] [(h0, .inr (8, [.null, .null, .null, .null, .null]))]
  refine K_aload_n hX dX8_init_0 rfl rfl ?_
  refine K_obj hX ko_RX8 (by omega) (Nat.le_of_ble_eq_true rfl) dX8_init_1 ?_
  refine K_aload_n hX dX8_init_4 rfl rfl ?_
  refine K_bipush (v := 14) hX dX8_init_5 (by decide) ?_
  refine K_newa (n := 14) hX k_arr (by decide) (by decide) (Nat.le_of_ble_eq_true rfl) (Nat.le_of_ble_eq_true rfl) dX8_init_7 (fun q1 => ?_)
  refine K_putF (q0 := 0) (ty := (.array .int)) hX hI kf_RX8_9 cl_8 kp_8_1 rfl (Nat.le_of_ble_eq_true rfl) rfl rfl dX8_init_9 ?_
  show kV X 1 14 12 [some (.ref h0), some (.ref r0)] [] [(h0, .inr (8, [.null, .ref q1, .null, .null, .null])), (q1, .inl ((kA X), 14, .inl (fun _ => 0)))]
  refine K_aload_n hX dX8_init_12 rfl rfl ?_
  refine K_bipush (v := 14) hX dX8_init_13 (by decide) ?_
  refine K_newa (n := 14) hX k_arr (by decide) (by decide) (Nat.le_of_ble_eq_true rfl) (Nat.le_of_ble_eq_true rfl) dX8_init_15 (fun q2 => ?_)
  refine K_putF (q0 := 0) (ty := (.array .int)) hX hI kf_RX8_15 cl_8 kp_8_2 rfl (Nat.le_of_ble_eq_true rfl) rfl rfl dX8_init_17 ?_
  show kV X 2 28 20 [some (.ref h0), some (.ref r0)] [] [(h0, .inr (8, [.null, .ref q1, .ref q2, .null, .null])), (q1, .inl ((kA X), 14, .inl (fun _ => 0))), (q2, .inl ((kA X), 14, .inl (fun _ => 0)))]
  refine K_aload_n hX dX8_init_20 rfl rfl ?_
  refine K_bipush (v := 14) hX dX8_init_21 (by decide) ?_
  refine K_newa (n := 14) hX k_arr (by decide) (by decide) (Nat.le_of_ble_eq_true rfl) (Nat.le_of_ble_eq_true rfl) dX8_init_23 (fun q3 => ?_)
  refine K_putF (q0 := 0) (ty := (.array .int)) hX hI kf_RX8_18 cl_8 kp_8_3 rfl (Nat.le_of_ble_eq_true rfl) rfl rfl dX8_init_25 ?_
  show kV X 3 42 28 [some (.ref h0), some (.ref r0)] [] [(h0, .inr (8, [.null, .ref q1, .ref q2, .ref q3, .null])), (q1, .inl ((kA X), 14, .inl (fun _ => 0))), (q2, .inl ((kA X), 14, .inl (fun _ => 0))), (q3, .inl ((kA X), 14, .inl (fun _ => 0)))]
  refine K_aload_n hX dX8_init_28 rfl rfl ?_
  refine K_bipush (v := 14) hX dX8_init_29 (by decide) ?_
  refine K_newa (n := 14) hX k_arr (by decide) (by decide) (Nat.le_of_ble_eq_true rfl) (Nat.le_of_ble_eq_true rfl) dX8_init_31 (fun q4 => ?_)
  refine K_putF (q0 := 0) (ty := (.array .int)) hX hI kf_RX8_21 cl_8 kp_8_4 rfl (Nat.le_of_ble_eq_true rfl) rfl rfl dX8_init_33 ?_
  show kV X 4 56 36 [some (.ref h0), some (.ref r0)] [] [(h0, .inr (8, [.null, .ref q1, .ref q2, .ref q3, .ref q4])), (q1, .inl ((kA X), 14, .inl (fun _ => 0))), (q2, .inl ((kA X), 14, .inl (fun _ => 0))), (q3, .inl ((kA X), 14, .inl (fun _ => 0))), (q4, .inl ((kA X), 14, .inl (fun _ => 0)))]
  refine K_aload_n hX dX8_init_36 rfl rfl ?_
  refine K_aload_n hX dX8_init_37 rfl rfl ?_
  refine K_putF (q0 := 0) (ty := (.object "BentFurrows$Ground")) hX hI kf_RX8_24 cl_8 kp_8_0 rfl (Nat.le_of_ble_eq_true rfl) rfl rfl dX8_init_38 ?_
  show kV X 4 56 41 [some (.ref h0), some (.ref r0)] [] [(h0, .inr (8, [.ref r0, .ref q1, .ref q2, .ref q3, .ref q4])), (q1, .inl ((kA X), 14, .inl (fun _ => 0))), (q2, .inl ((kA X), 14, .inl (fun _ => 0))), (q3, .inl ((kA X), 14, .inl (fun _ => 0))), (q4, .inl ((kA X), 14, .inl (fun _ => 0)))]
  exact K_vret hX hE [q1, q2, q3, q4] rfl dX8_init_41
def wd_X1_init (cA : ClassId) (h0 : Nat) (r0 : Nat) (r1 : Nat) (u : List Nat) : va_W := [(h0, .inr (1, [.ref r0, .ref r1, .ref (u.getD 0 0)])), ((u.getD 0 0), .inl (cA, 8, .inl (fun _ => 0)))]
set_option maxRecDepth 100000 in
set_option maxHeartbeats 4000000 in
theorem k_X1_init {d : Nat} (hd9 : 1 ≤ d) {cA : ClassId} {h0 : Nat} {r0 : Nat} {r1 : Nat} : kCon d yX1_init cX1_init 3 1 8 cA [.ref h0, .ref r0, .ref r1] [(h0, .inr (1, [.null, .null, .null]))] (wd_X1_init cA h0 r0 r1) := by
  refine kCon_of (by decide) (Nat.le_of_ble_eq_true rfl) (by intro v hv; simp at hv; rcases hv with rfl | rfl | rfl <;> rfl) (fun X hX hE hc hI => ?_)
  subst hc
  have hI := hI rfl
  have hX : kOk cX1_init 3 RX1 d 1 8 X := hX
  obtain ⟨d, rfl⟩ : ∃ e, d = e + 1 := ⟨d - 1, by omega⟩
  show kV X 0 0 0 [some (.ref h0), some (.ref r0), some (.ref r1)] [] [(h0, .inr (1, [.null, .null, .null]))]
  refine K_aload_n hX dX1_init_0 rfl rfl ?_
  refine K_obj hX ko_RX1 (by omega) (Nat.le_of_ble_eq_true rfl) dX1_init_1 ?_
  refine K_aload_n hX dX1_init_4 rfl rfl ?_
  refine K_bipush (v := 8) hX dX1_init_5 (by decide) ?_
  refine K_newa (n := 8) hX k_arr (by decide) (by decide) (Nat.le_of_ble_eq_true rfl) (Nat.le_of_ble_eq_true rfl) dX1_init_7 (fun q1 => ?_)
  refine K_putF (q0 := 0) (ty := (.array .int)) hX hI kf_RX1_9 cl_1 kp_1_2 rfl (Nat.le_of_ble_eq_true rfl) rfl rfl dX1_init_9 ?_
  show kV X 1 8 12 [some (.ref h0), some (.ref r0), some (.ref r1)] [] [(h0, .inr (1, [.null, .null, .ref q1])), (q1, .inl ((kA X), 8, .inl (fun _ => 0)))]
  refine K_aload_n hX dX1_init_12 rfl rfl ?_
  refine K_aload_n hX dX1_init_13 rfl rfl ?_
  refine K_putF (q0 := 0) (ty := (.object "BentFurrows$Ground")) hX hI kf_RX1_15 cl_1 kp_1_0 rfl (Nat.le_of_ble_eq_true rfl) rfl rfl dX1_init_14 ?_
  show kV X 1 8 17 [some (.ref h0), some (.ref r0), some (.ref r1)] [] [(h0, .inr (1, [.ref r0, .null, .ref q1])), (q1, .inl ((kA X), 8, .inl (fun _ => 0)))]
  refine K_aload_n hX dX1_init_17 rfl rfl ?_
  refine K_aload_n hX dX1_init_18 rfl rfl ?_
  refine K_putF (q0 := 0) (ty := (.object "BentFurrows$Years")) hX hI kf_RX1_19 cl_1 kp_1_1 rfl (Nat.le_of_ble_eq_true rfl) rfl rfl dX1_init_19 ?_
  show kV X 1 8 22 [some (.ref h0), some (.ref r0), some (.ref r1)] [] [(h0, .inr (1, [.ref r0, .ref r1, .ref q1])), (q1, .inl ((kA X), 8, .inl (fun _ => 0)))]
  exact K_vret hX hE [q1] rfl dX1_init_22
def wd_X3_init (cA : ClassId) (h0 : Nat) (r0 : Nat) (r1 : Nat) (u : List Nat) : va_W := [(h0, .inr (3, [.ref r0, .ref r1]))]
set_option maxRecDepth 100000 in
set_option maxHeartbeats 4000000 in
theorem k_X3_init {d : Nat} (hd9 : 1 ≤ d) {cA : ClassId} {h0 : Nat} {r0 : Nat} {r1 : Nat} : kCon d yX3_init cX3_init 3 0 0 cA [.ref h0, .ref r0, .ref r1] [(h0, .inr (3, [.null, .null]))] (wd_X3_init cA h0 r0 r1) := by
  refine kCon_of (by decide) (Nat.le_of_ble_eq_true rfl) (by intro v hv; simp at hv; rcases hv with rfl | rfl | rfl <;> rfl) (fun X hX hE hc hI => ?_)
  subst hc
  have hI := hI rfl
  have hX : kOk cX3_init 3 RX3 d 0 0 X := hX
  obtain ⟨d, rfl⟩ : ∃ e, d = e + 1 := ⟨d - 1, by omega⟩
  show kV X 0 0 0 [some (.ref h0), some (.ref r0), some (.ref r1)] [] [(h0, .inr (3, [.null, .null]))]
  refine K_aload_n hX dX3_init_0 rfl rfl ?_
  refine K_obj hX ko_RX3 (by omega) (Nat.le_of_ble_eq_true rfl) dX3_init_1 ?_
  refine K_aload_n hX dX3_init_4 rfl rfl ?_
  refine K_aload_n hX dX3_init_5 rfl rfl ?_
  refine K_putF (q0 := 0) (ty := (.object "BentFurrows$Ground")) hX hI kf_RX3_9 cl_3 kp_3_0 rfl (Nat.le_of_ble_eq_true rfl) rfl rfl dX3_init_6 ?_
  show kV X 0 0 9 [some (.ref h0), some (.ref r0), some (.ref r1)] [] [(h0, .inr (3, [.ref r0, .null]))]
  refine K_aload_n hX dX3_init_9 rfl rfl ?_
  refine K_aload_n hX dX3_init_10 rfl rfl ?_
  refine K_putF (q0 := 0) (ty := (.object "BentFurrows$Years")) hX hI kf_RX3_15 cl_3 kp_3_1 rfl (Nat.le_of_ble_eq_true rfl) rfl rfl dX3_init_11 ?_
  show kV X 0 0 14 [some (.ref h0), some (.ref r0), some (.ref r1)] [] [(h0, .inr (3, [.ref r0, .ref r1]))]
  exact K_vret hX hE [] rfl dX3_init_14
def wd_X5_init (cA : ClassId) (h0 : Nat) (r0 : Nat) (u : List Nat) : va_W := [(h0, .inr (5, [.ref r0, .ref (u.getD 0 0), .ref (u.getD 1 0), .ref (u.getD 2 0), .ref (u.getD 3 0), .ref (u.getD 4 0), .ref (u.getD 5 0), .int 0, .int 0])), ((u.getD 0 0), .inl (cA, 5, .inl (fun _ => 0))), ((u.getD 1 0), .inl (cA, 5, .inl (fun _ => 0))), ((u.getD 2 0), .inl (cA, 5, .inl (fun _ => 0))), ((u.getD 3 0), .inl (cA, 8, .inl (fun _ => 0))), ((u.getD 4 0), .inl (cA, 5, .inl (fun _ => 0))), ((u.getD 5 0), .inl (cA, 5, .inl (fun _ => 0)))]
set_option maxRecDepth 100000 in
set_option maxHeartbeats 4000000 in
theorem k_X5_init {d : Nat} (hd9 : 1 ≤ d) {cA : ClassId} {h0 : Nat} {r0 : Nat} : kCon d yX5_init cX5_init 2 6 33 cA [.ref h0, .ref r0] [(h0, .inr (5, [.null, .null, .null, .null, .null, .null, .null, .int 0, .int 0]))] (wd_X5_init cA h0 r0) := by
  refine kCon_of (by decide) (Nat.le_of_ble_eq_true rfl) (by intro v hv; simp at hv; rcases hv with rfl | rfl <;> rfl) (fun X hX hE hc hI => ?_)
  subst hc
  have hI := hI rfl
  have hX : kOk cX5_init 2 RX5 d 6 33 X := hX
  obtain ⟨d, rfl⟩ : ∃ e, d = e + 1 := ⟨d - 1, by omega⟩
  show kV X 0 0 0 [some (.ref h0), some (.ref r0)] [] [(h0, .inr (5, [.null, .null, .null, .null, .null, .null, .null, .int 0, .int 0]))]
  refine K_aload_n hX dX5_init_0 rfl rfl ?_
  refine K_obj hX ko_RX5 (by omega) (Nat.le_of_ble_eq_true rfl) dX5_init_1 ?_
  refine K_aload_n hX dX5_init_4 rfl rfl ?_
  refine K_iconst (v := 5) hX dX5_init_5 (by decide) ?_
  refine K_newa (n := 5) hX k_arr (by decide) (by decide) (Nat.le_of_ble_eq_true rfl) (Nat.le_of_ble_eq_true rfl) dX5_init_6 (fun q1 => ?_)
  refine K_putF (q0 := 0) (ty := (.array .int)) hX hI kf_RX5_11 cl_5 kp_5_1 rfl (Nat.le_of_ble_eq_true rfl) rfl rfl dX5_init_8 ?_
  show kV X 1 5 11 [some (.ref h0), some (.ref r0)] [] [(h0, .inr (5, [.null, .ref q1, .null, .null, .null, .null, .null, .int 0, .int 0])), (q1, .inl ((kA X), 5, .inl (fun _ => 0)))]
  refine K_aload_n hX dX5_init_11 rfl rfl ?_
  refine K_iconst (v := 5) hX dX5_init_12 (by decide) ?_
  refine K_newa (n := 5) hX k_arr (by decide) (by decide) (Nat.le_of_ble_eq_true rfl) (Nat.le_of_ble_eq_true rfl) dX5_init_13 (fun q2 => ?_)
  refine K_putF (q0 := 0) (ty := (.array .int)) hX hI kf_RX5_15 cl_5 kp_5_2 rfl (Nat.le_of_ble_eq_true rfl) rfl rfl dX5_init_15 ?_
  show kV X 2 10 18 [some (.ref h0), some (.ref r0)] [] [(h0, .inr (5, [.null, .ref q1, .ref q2, .null, .null, .null, .null, .int 0, .int 0])), (q1, .inl ((kA X), 5, .inl (fun _ => 0))), (q2, .inl ((kA X), 5, .inl (fun _ => 0)))]
  refine K_aload_n hX dX5_init_18 rfl rfl ?_
  refine K_iconst (v := 5) hX dX5_init_19 (by decide) ?_
  refine K_newa (n := 5) hX k_arr (by decide) (by decide) (Nat.le_of_ble_eq_true rfl) (Nat.le_of_ble_eq_true rfl) dX5_init_20 (fun q3 => ?_)
  refine K_putF (q0 := 0) (ty := (.array .int)) hX hI kf_RX5_18 cl_5 kp_5_3 rfl (Nat.le_of_ble_eq_true rfl) rfl rfl dX5_init_22 ?_
  show kV X 3 15 25 [some (.ref h0), some (.ref r0)] [] [(h0, .inr (5, [.null, .ref q1, .ref q2, .ref q3, .null, .null, .null, .int 0, .int 0])), (q1, .inl ((kA X), 5, .inl (fun _ => 0))), (q2, .inl ((kA X), 5, .inl (fun _ => 0))), (q3, .inl ((kA X), 5, .inl (fun _ => 0)))]
  refine K_aload_n hX dX5_init_25 rfl rfl ?_
  refine K_bipush (v := 8) hX dX5_init_26 (by decide) ?_
  refine K_newa (n := 8) hX k_arr (by decide) (by decide) (Nat.le_of_ble_eq_true rfl) (Nat.le_of_ble_eq_true rfl) dX5_init_28 (fun q4 => ?_)
  refine K_putF (q0 := 0) (ty := (.array .int)) hX hI kf_RX5_21 cl_5 kp_5_4 rfl (Nat.le_of_ble_eq_true rfl) rfl rfl dX5_init_30 ?_
  show kV X 4 23 33 [some (.ref h0), some (.ref r0)] [] [(h0, .inr (5, [.null, .ref q1, .ref q2, .ref q3, .ref q4, .null, .null, .int 0, .int 0])), (q1, .inl ((kA X), 5, .inl (fun _ => 0))), (q2, .inl ((kA X), 5, .inl (fun _ => 0))), (q3, .inl ((kA X), 5, .inl (fun _ => 0))), (q4, .inl ((kA X), 8, .inl (fun _ => 0)))]
  refine K_aload_n hX dX5_init_33 rfl rfl ?_
  refine K_iconst (v := 5) hX dX5_init_34 (by decide) ?_
  refine K_newa (n := 5) hX k_arr (by decide) (by decide) (Nat.le_of_ble_eq_true rfl) (Nat.le_of_ble_eq_true rfl) dX5_init_35 (fun q5 => ?_)
  refine K_putF (q0 := 0) (ty := (.array .int)) hX hI kf_RX5_24 cl_5 kp_5_5 rfl (Nat.le_of_ble_eq_true rfl) rfl rfl dX5_init_37 ?_
  show kV X 5 28 40 [some (.ref h0), some (.ref r0)] [] [(h0, .inr (5, [.null, .ref q1, .ref q2, .ref q3, .ref q4, .ref q5, .null, .int 0, .int 0])), (q1, .inl ((kA X), 5, .inl (fun _ => 0))), (q2, .inl ((kA X), 5, .inl (fun _ => 0))), (q3, .inl ((kA X), 5, .inl (fun _ => 0))), (q4, .inl ((kA X), 8, .inl (fun _ => 0))), (q5, .inl ((kA X), 5, .inl (fun _ => 0)))]
  refine K_aload_n hX dX5_init_40 rfl rfl ?_
  refine K_iconst (v := 5) hX dX5_init_41 (by decide) ?_
  refine K_newa (n := 5) hX k_arr (by decide) (by decide) (Nat.le_of_ble_eq_true rfl) (Nat.le_of_ble_eq_true rfl) dX5_init_42 (fun q6 => ?_)
  refine K_putF (q0 := 0) (ty := (.array .int)) hX hI kf_RX5_27 cl_5 kp_5_6 rfl (Nat.le_of_ble_eq_true rfl) rfl rfl dX5_init_44 ?_
  show kV X 6 33 47 [some (.ref h0), some (.ref r0)] [] [(h0, .inr (5, [.null, .ref q1, .ref q2, .ref q3, .ref q4, .ref q5, .ref q6, .int 0, .int 0])), (q1, .inl ((kA X), 5, .inl (fun _ => 0))), (q2, .inl ((kA X), 5, .inl (fun _ => 0))), (q3, .inl ((kA X), 5, .inl (fun _ => 0))), (q4, .inl ((kA X), 8, .inl (fun _ => 0))), (q5, .inl ((kA X), 5, .inl (fun _ => 0))), (q6, .inl ((kA X), 5, .inl (fun _ => 0)))]
  refine K_aload_n hX dX5_init_47 rfl rfl ?_
  refine K_aload_n hX dX5_init_48 rfl rfl ?_
  refine K_putF (q0 := 0) (ty := (.object "BentFurrows$Ground")) hX hI kf_RX5_30 cl_5 kp_5_0 rfl (Nat.le_of_ble_eq_true rfl) rfl rfl dX5_init_49 ?_
  show kV X 6 33 52 [some (.ref h0), some (.ref r0)] [] [(h0, .inr (5, [.ref r0, .ref q1, .ref q2, .ref q3, .ref q4, .ref q5, .ref q6, .int 0, .int 0])), (q1, .inl ((kA X), 5, .inl (fun _ => 0))), (q2, .inl ((kA X), 5, .inl (fun _ => 0))), (q3, .inl ((kA X), 5, .inl (fun _ => 0))), (q4, .inl ((kA X), 8, .inl (fun _ => 0))), (q5, .inl ((kA X), 5, .inl (fun _ => 0))), (q6, .inl ((kA X), 5, .inl (fun _ => 0)))]
  exact K_vret hX hE [q1, q2, q3, q4, q5, q6] rfl dX5_init_52
def wd_X7_init (cA : ClassId) (h0 : Nat) (u : List Nat) : va_W := [(h0, .inr (7, [.ref (u.getD 0 0)])), ((u.getD 0 0), .inl (cA, 30, .inl (fC (-1) 30)))]
set_option maxRecDepth 100000 in
set_option maxHeartbeats 4000000 in
theorem kl_X7_init {d mc ms kc ks h0 q1 : Nat} {X : bX} (hX : kOk cX7_init 2 RX7 (d + 1) mc ms X) (hkc : kc ≤ mc) (hks : ks ≤ ms)
    (hend : kV X kc ks 35 [some (.ref h0), some (.int (nI 30))] [] [(h0, .inr (7, [.ref q1])), (q1, .inl ((kA X), 30, .inl (fC (-1) 30)))]) : ∀ (n i : Nat), i + n = 30 → kV X kc ks 14 [some (.ref h0), some (.int (nI i))] [] [(h0, .inr (7, [.ref q1])), (q1, .inl ((kA X), 30, .inl (fC (-1) i)))]
  | 0, i, hi => by
    have hi : i = 30 := by omega
    subst hi
    refine K_iload_n hX dX7_init_14 rfl rfl ?_
    refine K_bipush (v := 30) hX dX7_init_15 (by decide) ?_
    refine K_icmp_ge (tgt := 35) hX dX7_init_17 (by decide) (fun _ => hend) (fun h => absurd (by decide) h)
  | n + 1, i, hi => by
    refine K_iload_n hX dX7_init_14 rfl rfl ?_
    refine K_bipush (v := 30) hX dX7_init_15 (by decide) ?_
    refine K_icmp_ge (tgt := 35) hX dX7_init_17 (by decide) (fun h => absurd h (nI_ge (a := i) (b := 30) (by omega) (by decide))) (fun _ => ?_)
    refine K_aload_n hX dX7_init_20 rfl rfl ?_
    refine K_getf (q0 := 0) hX kf_RX7_11 cl_7 rfl rfl dX7_init_21 ?_
    refine K_iload_n hX dX7_init_24 rfl rfl ?_
    refine K_iconst (v := (-1)) hX dX7_init_25 (by decide) ?_
    refine K_callP (q0 := 1) (S := []) (wr := [(h0, .inr (7, [.ref q1]))]) (d := d) hX (k_put (by decide)) lq_RX7_15 md_X9_put iv_X9_put co_X9_put (Nat.le_of_ble_eq_true rfl) [0] rfl rfl rfl (by decide) (Nat.le_of_ble_eq_true rfl) hkc hks dX7_init_26 (fun _ => ?_)
    refine K_iinc hX dX7_init_29 rfl (nI_1 i) (Nat.le_of_ble_eq_true rfl) rfl ?_
    refine K_goto (tgt := 14) hX dX7_init_32 (by decide) ?_
    have e := kl_X7_init hX hkc hks hend n (i + 1) (by omega)
    rw [← fC_put (N := 30) (by omega) (by decide)] at e
    exact e
set_option maxRecDepth 100000 in
set_option maxHeartbeats 4000000 in
theorem k_X7_init {d : Nat} (hd9 : 1 ≤ d) {cA : ClassId} {h0 : Nat} : kCon d yX7_init cX7_init 2 1 30 cA [.ref h0] [(h0, .inr (7, [.null]))] (wd_X7_init cA h0) := by
  refine kCon_of (by decide) (Nat.le_of_ble_eq_true rfl) (by intro v hv; simp at hv; rcases hv with rfl; rfl) (fun X hX hE hc hI => ?_)
  subst hc
  have hI := hI rfl
  have hX : kOk cX7_init 2 RX7 d 1 30 X := hX
  obtain ⟨d, rfl⟩ : ∃ e, d = e + 1 := ⟨d - 1, by omega⟩
  show kV X 0 0 0 [some (.ref h0), none] [] [(h0, .inr (7, [.null]))]
  refine K_aload_n hX dX7_init_0 rfl rfl ?_
  refine K_obj hX ko_RX7 (by omega) (Nat.le_of_ble_eq_true rfl) dX7_init_1 ?_
  refine K_aload_n hX dX7_init_4 rfl rfl ?_
  refine K_bipush (v := 30) hX dX7_init_5 (by decide) ?_
  refine K_newa (n := 30) hX k_arr (by decide) (by decide) (Nat.le_of_ble_eq_true rfl) (Nat.le_of_ble_eq_true rfl) dX7_init_7 (fun q1 => ?_)
  refine K_putF (q0 := 0) (ty := (.array .int)) hX hI kf_RX7_11 cl_7 kp_7_0 rfl (Nat.le_of_ble_eq_true rfl) rfl rfl dX7_init_9 ?_
  show kV X 1 30 12 [some (.ref h0), none] [] [(h0, .inr (7, [.ref q1])), (q1, .inl ((kA X), 30, .inl (fun _ => 0)))]
  refine K_iconst (v := 0) hX dX7_init_12 (by decide) ?_
  refine K_istore_n hX dX7_init_13 rfl (Nat.le_of_ble_eq_true rfl) rfl ?_
  refine K_perm [0, 1] (ws2 := [(h0, .inr (7, [.ref q1])), (q1, .inl ((kA X), 30, .inl (fun _ => 0)))]) rfl rfl rfl ?_
  have e0 := fC_0 (-1)
  rw [← e0]
  refine kl_X7_init hX (Nat.le_of_ble_eq_true rfl) (Nat.le_of_ble_eq_true rfl) ?_ 30 0 rfl
  refine K_perm [0, 1] (ws2 := [(h0, .inr (7, [.ref q1])), (q1, .inl ((kA X), 30, .inl (fC (-1) 30)))]) rfl rfl rfl ?_
  exact K_vret hX hE [q1] rfl dX7_init_35
def wd_X2_init (cA : ClassId) (h0 : Nat) (r0 : Nat) (u : List Nat) : va_W := [(h0, .inr (2, [.ref r0, .ref (u.getD 0 0), .ref (u.getD 1 0), .ref (u.getD 2 0), .int 0])), ((u.getD 0 0), .inl (cA, 8, .inl (fun _ => 0))), ((u.getD 1 0), .inl (cA, 8, .inl (fun _ => 0))), ((u.getD 2 0), .inl (cA, 8, .inl (fun _ => 0)))]
set_option maxRecDepth 100000 in
set_option maxHeartbeats 4000000 in
theorem k_X2_init {d : Nat} (hd9 : 1 ≤ d) {cA : ClassId} {h0 : Nat} {r0 : Nat} : kCon d yX2_init cX2_init 2 3 24 cA [.ref h0, .ref r0] [(h0, .inr (2, [.null, .null, .null, .null, .int 0]))] (wd_X2_init cA h0 r0) := by
  refine kCon_of (by decide) (Nat.le_of_ble_eq_true rfl) (by intro v hv; simp at hv; rcases hv with rfl | rfl <;> rfl) (fun X hX hE hc hI => ?_)
  subst hc
  have hI := hI rfl
  have hX : kOk cX2_init 2 RX2 d 3 24 X := hX
  obtain ⟨d, rfl⟩ : ∃ e, d = e + 1 := ⟨d - 1, by omega⟩
  show kV X 0 0 0 [some (.ref h0), some (.ref r0)] [] [(h0, .inr (2, [.null, .null, .null, .null, .int 0]))]
  refine K_aload_n hX dX2_init_0 rfl rfl ?_
  refine K_obj hX ko_RX2 (by omega) (Nat.le_of_ble_eq_true rfl) dX2_init_1 ?_
  refine K_aload_n hX dX2_init_4 rfl rfl ?_
  refine K_bipush (v := 8) hX dX2_init_5 (by decide) ?_
  refine K_newa (n := 8) hX k_arr (by decide) (by decide) (Nat.le_of_ble_eq_true rfl) (Nat.le_of_ble_eq_true rfl) dX2_init_7 (fun q1 => ?_)
  refine K_putF (q0 := 0) (ty := (.array .int)) hX hI kf_RX2_11 cl_2 kp_2_1 rfl (Nat.le_of_ble_eq_true rfl) rfl rfl dX2_init_9 ?_
  show kV X 1 8 12 [some (.ref h0), some (.ref r0)] [] [(h0, .inr (2, [.null, .ref q1, .null, .null, .int 0])), (q1, .inl ((kA X), 8, .inl (fun _ => 0)))]
  refine K_aload_n hX dX2_init_12 rfl rfl ?_
  refine K_bipush (v := 8) hX dX2_init_13 (by decide) ?_
  refine K_newa (n := 8) hX k_arr (by decide) (by decide) (Nat.le_of_ble_eq_true rfl) (Nat.le_of_ble_eq_true rfl) dX2_init_15 (fun q2 => ?_)
  refine K_putF (q0 := 0) (ty := (.array .int)) hX hI kf_RX2_15 cl_2 kp_2_2 rfl (Nat.le_of_ble_eq_true rfl) rfl rfl dX2_init_17 ?_
  show kV X 2 16 20 [some (.ref h0), some (.ref r0)] [] [(h0, .inr (2, [.null, .ref q1, .ref q2, .null, .int 0])), (q1, .inl ((kA X), 8, .inl (fun _ => 0))), (q2, .inl ((kA X), 8, .inl (fun _ => 0)))]
  refine K_aload_n hX dX2_init_20 rfl rfl ?_
  refine K_bipush (v := 8) hX dX2_init_21 (by decide) ?_
  refine K_newa (n := 8) hX k_arr (by decide) (by decide) (Nat.le_of_ble_eq_true rfl) (Nat.le_of_ble_eq_true rfl) dX2_init_23 (fun q3 => ?_)
  refine K_putF (q0 := 0) (ty := (.array .int)) hX hI kf_RX2_18 cl_2 kp_2_3 rfl (Nat.le_of_ble_eq_true rfl) rfl rfl dX2_init_25 ?_
  show kV X 3 24 28 [some (.ref h0), some (.ref r0)] [] [(h0, .inr (2, [.null, .ref q1, .ref q2, .ref q3, .int 0])), (q1, .inl ((kA X), 8, .inl (fun _ => 0))), (q2, .inl ((kA X), 8, .inl (fun _ => 0))), (q3, .inl ((kA X), 8, .inl (fun _ => 0)))]
  refine K_aload_n hX dX2_init_28 rfl rfl ?_
  refine K_aload_n hX dX2_init_29 rfl rfl ?_
  refine K_putF (q0 := 0) (ty := (.object "BentFurrows$Ground")) hX hI kf_RX2_21 cl_2 kp_2_0 rfl (Nat.le_of_ble_eq_true rfl) rfl rfl dX2_init_30 ?_
  show kV X 3 24 33 [some (.ref h0), some (.ref r0)] [] [(h0, .inr (2, [.ref r0, .ref q1, .ref q2, .ref q3, .int 0])), (q1, .inl ((kA X), 8, .inl (fun _ => 0))), (q2, .inl ((kA X), 8, .inl (fun _ => 0))), (q3, .inl ((kA X), 8, .inl (fun _ => 0)))]
  exact K_vret hX hE [q1, q2, q3] rfl dX2_init_33
def wd_X9_init (cA : ClassId) (h0 : Nat) (u : List Nat) : va_W := [(h0, .inr (9, [.ref (u.getD 0 0), .ref (u.getD 2 0), .ref (u.getD 4 0), .ref (u.getD 11 0), .ref (u.getD 16 0), .ref (u.getD 18 0), .ref (u.getD 19 0), .ref (u.getD 26 0), .ref (u.getD 28 0)])), ((u.getD 0 0), .inr (6, [.ref (u.getD 1 0), .int 0])), ((u.getD 1 0), .inl (cA, 200, .inl (fun _ => 0))), ((u.getD 2 0), .inr (4, [.ref (u.getD 0 0), .ref (u.getD 3 0), .int 0, .int 0, .int 0])), ((u.getD 3 0), .inl (cA, 88, .inl (fun _ => 0))), ((u.getD 4 0), .inr (0, [.int 0, .ref (u.getD 5 0), .ref (u.getD 6 0), .ref (u.getD 7 0), .ref (u.getD 8 0), .ref (u.getD 9 0), .int 0, .int 0, .ref (u.getD 10 0), .int 2, .int 20])), ((u.getD 5 0), .inl (cA, 72, .inl (fun _ => 0))), ((u.getD 6 0), .inl (cA, 56, .inl (fun _ => 0))), ((u.getD 7 0), .inl (cA, 14, .inl (fun _ => 0))), ((u.getD 8 0), .inl (cA, 14, .inl (fC 2000 14))), ((u.getD 9 0), .inl (cA, 14, .inl (fun _ => 0))), ((u.getD 10 0), .inl (cA, 52, .inl (fun _ => 0))), ((u.getD 11 0), .inr (8, [.ref (u.getD 4 0), .ref (u.getD 12 0), .ref (u.getD 13 0), .ref (u.getD 14 0), .ref (u.getD 15 0)])), ((u.getD 12 0), .inl (cA, 14, .inl (fun _ => 0))), ((u.getD 13 0), .inl (cA, 14, .inl (fun _ => 0))), ((u.getD 14 0), .inl (cA, 14, .inl (fun _ => 0))), ((u.getD 15 0), .inl (cA, 14, .inl (fun _ => 0))), ((u.getD 16 0), .inr (1, [.ref (u.getD 4 0), .ref (u.getD 11 0), .ref (u.getD 17 0)])), ((u.getD 17 0), .inl (cA, 8, .inl (fun _ => 0))), ((u.getD 18 0), .inr (3, [.ref (u.getD 4 0), .ref (u.getD 11 0)])), ((u.getD 19 0), .inr (5, [.ref (u.getD 4 0), .ref (u.getD 20 0), .ref (u.getD 21 0), .ref (u.getD 22 0), .ref (u.getD 23 0), .ref (u.getD 24 0), .ref (u.getD 25 0), .int 0, .int 0])), ((u.getD 20 0), .inl (cA, 5, .inl (fun _ => 0))), ((u.getD 21 0), .inl (cA, 5, .inl (fun _ => 0))), ((u.getD 22 0), .inl (cA, 5, .inl (fun _ => 0))), ((u.getD 23 0), .inl (cA, 8, .inl (fun _ => 0))), ((u.getD 24 0), .inl (cA, 5, .inl (fun _ => 0))), ((u.getD 25 0), .inl (cA, 5, .inl (fun _ => 0))), ((u.getD 26 0), .inr (7, [.ref (u.getD 27 0)])), ((u.getD 27 0), .inl (cA, 30, .inl (fC (-1) 30))), ((u.getD 28 0), .inr (2, [.ref (u.getD 4 0), .ref (u.getD 29 0), .ref (u.getD 30 0), .ref (u.getD 31 0), .int 0])), ((u.getD 29 0), .inl (cA, 8, .inl (fun _ => 0))), ((u.getD 30 0), .inl (cA, 8, .inl (fun _ => 0))), ((u.getD 31 0), .inl (cA, 8, .inl (fun _ => 0)))]
set_option maxRecDepth 100000 in
set_option maxHeartbeats 4000000 in
theorem k_X9_init {d : Nat} (hd9 : 2 ≤ d) {cA : ClassId} {h0 : Nat} : kCon d yX9_init cX9_init 1 32 704 cA [.ref h0] [(h0, .inr (9, [.null, .null, .null, .null, .null, .null, .null, .null, .null]))] (wd_X9_init cA h0) := by
  refine kCon_of (by decide) (Nat.le_of_ble_eq_true rfl) (by intro v hv; simp at hv; rcases hv with rfl; rfl) (fun X hX hE hc hI => ?_)
  subst hc
  have hI := hI rfl
  have hX : kOk cX9_init 1 RX9 d 32 704 X := hX
  obtain ⟨d, rfl⟩ : ∃ e, d = e + 1 := ⟨d - 1, by omega⟩
  show kV X 0 0 0 [some (.ref h0)] [] [(h0, .inr (9, [.null, .null, .null, .null, .null, .null, .null, .null, .null]))]
  refine K_aload_n hX dX9_init_0 rfl rfl ?_
  refine K_obj hX ko_RX9 (by omega) (Nat.le_of_ble_eq_true rfl) dX9_init_1 ?_
  refine K_aload_n hX dX9_init_4 rfl rfl ?_
  refine K_new (ci := 6) (N := 2) (fs := [.null, .int 0]) hX rfl cl_6 kn_RX9_7 kt_6 kd_6 (Nat.le_of_ble_eq_true rfl) (Nat.le_of_ble_eq_true rfl) dX9_init_5 (fun q1 => ?_)
  refine K_dup hX dX9_init_8 rfl ?_
  refine K_callI (As := []) (S := [.ref q1, .ref h0]) (wr := [(h0, .inr (9, [.null, .null, .null, .null, .null, .null, .null, .null, .null]))]) (d := d) hX (k_X6_init (by omega)) lq_RX9_9 mq_X6_init iq_X6_init rfl oq_X6_init (Nat.le_of_ble_eq_true rfl) [1] [0] rfl rfl rfl rfl (by decide) rfl rfl (Nat.le_of_ble_eq_true rfl) (Nat.le_of_ble_eq_true rfl) (Nat.le_of_ble_eq_true rfl) dX9_init_9 (fun u2 => ?_)
  show kV X 2 202 12 [some (.ref h0)] [.ref q1, .ref h0] [(h0, .inr (9, [.null, .null, .null, .null, .null, .null, .null, .null, .null])), (q1, .inr (6, [.ref (u2.getD 0 0), .int 0])), ((u2.getD 0 0), .inl ((kA X), 200, .inl (fun _ => 0)))]
  refine K_putF (q0 := 0) (ty := (.object "BentFurrows$Text")) hX hI kf_RX9_10 cl_9 kp_9_0 rfl (Nat.le_of_ble_eq_true rfl) rfl rfl dX9_init_12 ?_
  show kV X 2 202 15 [some (.ref h0)] [] [(h0, .inr (9, [.ref q1, .null, .null, .null, .null, .null, .null, .null, .null])), (q1, .inr (6, [.ref (u2.getD 0 0), .int 0])), ((u2.getD 0 0), .inl ((kA X), 200, .inl (fun _ => 0)))]
  refine K_aload_n hX dX9_init_15 rfl rfl ?_
  refine K_new (ci := 4) (N := 5) (fs := [.null, .null, .int 0, .int 0, .int 0]) hX rfl cl_4 kn_RX9_16 kt_4 kd_4 (Nat.le_of_ble_eq_true rfl) (Nat.le_of_ble_eq_true rfl) dX9_init_16 (fun q3 => ?_)
  refine K_dup hX dX9_init_19 rfl ?_
  refine K_aload_n hX dX9_init_20 rfl rfl ?_
  refine K_getf (q0 := 0) hX kf_RX9_10 cl_9 rfl rfl dX9_init_21 ?_
  refine K_callI (As := [.ref q1]) (S := [.ref q3, .ref h0]) (wr := [(h0, .inr (9, [.ref q1, .null, .null, .null, .null, .null, .null, .null, .null])), (q1, .inr (6, [.ref (u2.getD 0 0), .int 0])), ((u2.getD 0 0), .inl ((kA X), 200, .inl (fun _ => 0)))]) (d := d) hX (k_X4_init (by omega)) lq_RX9_18 mq_X4_init iq_X4_init rfl oq_X4_init (Nat.le_of_ble_eq_true rfl) [3] [0, 1, 2] rfl rfl rfl rfl (by decide) rfl rfl (Nat.le_of_ble_eq_true rfl) (Nat.le_of_ble_eq_true rfl) (Nat.le_of_ble_eq_true rfl) dX9_init_24 (fun u4 => ?_)
  show kV X 4 295 27 [some (.ref h0)] [.ref q3, .ref h0] [(h0, .inr (9, [.ref q1, .null, .null, .null, .null, .null, .null, .null, .null])), (q1, .inr (6, [.ref (u2.getD 0 0), .int 0])), ((u2.getD 0 0), .inl ((kA X), 200, .inl (fun _ => 0))), (q3, .inr (4, [.ref q1, .ref (u4.getD 0 0), .int 0, .int 0, .int 0])), ((u4.getD 0 0), .inl ((kA X), 88, .inl (fun _ => 0)))]
  refine K_putF (q0 := 0) (ty := (.object "BentFurrows$Reader")) hX hI kf_RX9_21 cl_9 kp_9_1 rfl (Nat.le_of_ble_eq_true rfl) rfl rfl dX9_init_27 ?_
  show kV X 4 295 30 [some (.ref h0)] [] [(h0, .inr (9, [.ref q1, .ref q3, .null, .null, .null, .null, .null, .null, .null])), (q1, .inr (6, [.ref (u2.getD 0 0), .int 0])), ((u2.getD 0 0), .inl ((kA X), 200, .inl (fun _ => 0))), (q3, .inr (4, [.ref q1, .ref (u4.getD 0 0), .int 0, .int 0, .int 0])), ((u4.getD 0 0), .inl ((kA X), 88, .inl (fun _ => 0)))]
  refine K_aload_n hX dX9_init_30 rfl rfl ?_
  refine K_new (ci := 0) (N := 11) (fs := [.int 0, .null, .null, .null, .null, .null, .int 0, .int 0, .null, .int 0, .int 0]) hX rfl cl_0 kn_RX9_25 kt_0 kd_0 (Nat.le_of_ble_eq_true rfl) (Nat.le_of_ble_eq_true rfl) dX9_init_31 (fun q5 => ?_)
  refine K_dup hX dX9_init_34 rfl ?_
  refine K_callI (As := []) (S := [.ref q5, .ref h0]) (wr := [(h0, .inr (9, [.ref q1, .ref q3, .null, .null, .null, .null, .null, .null, .null])), (q1, .inr (6, [.ref (u2.getD 0 0), .int 0])), ((u2.getD 0 0), .inl ((kA X), 200, .inl (fun _ => 0))), (q3, .inr (4, [.ref q1, .ref (u4.getD 0 0), .int 0, .int 0, .int 0])), ((u4.getD 0 0), .inl ((kA X), 88, .inl (fun _ => 0)))]) (d := d) hX (k_X0_init (by omega)) lq_RX9_27 mq_X0_init iq_X0_init rfl oq_X0_init (Nat.le_of_ble_eq_true rfl) [5] [0, 1, 2, 3, 4] rfl rfl rfl rfl (by decide) rfl rfl (Nat.le_of_ble_eq_true rfl) (Nat.le_of_ble_eq_true rfl) (Nat.le_of_ble_eq_true rfl) dX9_init_35 (fun u6 => ?_)
  show kV X 11 528 38 [some (.ref h0)] [.ref q5, .ref h0] [(h0, .inr (9, [.ref q1, .ref q3, .null, .null, .null, .null, .null, .null, .null])), (q1, .inr (6, [.ref (u2.getD 0 0), .int 0])), ((u2.getD 0 0), .inl ((kA X), 200, .inl (fun _ => 0))), (q3, .inr (4, [.ref q1, .ref (u4.getD 0 0), .int 0, .int 0, .int 0])), ((u4.getD 0 0), .inl ((kA X), 88, .inl (fun _ => 0))), (q5, .inr (0, [.int 0, .ref (u6.getD 0 0), .ref (u6.getD 1 0), .ref (u6.getD 2 0), .ref (u6.getD 3 0), .ref (u6.getD 4 0), .int 0, .int 0, .ref (u6.getD 5 0), .int 2, .int 20])), ((u6.getD 0 0), .inl ((kA X), 72, .inl (fun _ => 0))), ((u6.getD 1 0), .inl ((kA X), 56, .inl (fun _ => 0))), ((u6.getD 2 0), .inl ((kA X), 14, .inl (fun _ => 0))), ((u6.getD 3 0), .inl ((kA X), 14, .inl (fC 2000 14))), ((u6.getD 4 0), .inl ((kA X), 14, .inl (fun _ => 0))), ((u6.getD 5 0), .inl ((kA X), 52, .inl (fun _ => 0)))]
  refine K_putF (q0 := 0) (ty := (.object "BentFurrows$Ground")) hX hI kf_RX9_28 cl_9 kp_9_2 rfl (Nat.le_of_ble_eq_true rfl) rfl rfl dX9_init_38 ?_
  show kV X 11 528 41 [some (.ref h0)] [] [(h0, .inr (9, [.ref q1, .ref q3, .ref q5, .null, .null, .null, .null, .null, .null])), (q1, .inr (6, [.ref (u2.getD 0 0), .int 0])), ((u2.getD 0 0), .inl ((kA X), 200, .inl (fun _ => 0))), (q3, .inr (4, [.ref q1, .ref (u4.getD 0 0), .int 0, .int 0, .int 0])), ((u4.getD 0 0), .inl ((kA X), 88, .inl (fun _ => 0))), (q5, .inr (0, [.int 0, .ref (u6.getD 0 0), .ref (u6.getD 1 0), .ref (u6.getD 2 0), .ref (u6.getD 3 0), .ref (u6.getD 4 0), .int 0, .int 0, .ref (u6.getD 5 0), .int 2, .int 20])), ((u6.getD 0 0), .inl ((kA X), 72, .inl (fun _ => 0))), ((u6.getD 1 0), .inl ((kA X), 56, .inl (fun _ => 0))), ((u6.getD 2 0), .inl ((kA X), 14, .inl (fun _ => 0))), ((u6.getD 3 0), .inl ((kA X), 14, .inl (fC 2000 14))), ((u6.getD 4 0), .inl ((kA X), 14, .inl (fun _ => 0))), ((u6.getD 5 0), .inl ((kA X), 52, .inl (fun _ => 0)))]
  refine K_aload_n hX dX9_init_41 rfl rfl ?_
  refine K_new (ci := 8) (N := 5) (fs := [.null, .null, .null, .null, .null]) hX rfl cl_8 kn_RX9_32 kt_8 kd_8 (Nat.le_of_ble_eq_true rfl) (Nat.le_of_ble_eq_true rfl) dX9_init_42 (fun q7 => ?_)
  refine K_dup hX dX9_init_45 rfl ?_
  refine K_aload_n hX dX9_init_46 rfl rfl ?_
  refine K_getf (q0 := 0) hX kf_RX9_28 cl_9 rfl rfl dX9_init_47 ?_
  refine K_callI (As := [.ref q5]) (S := [.ref q7, .ref h0]) (wr := [(h0, .inr (9, [.ref q1, .ref q3, .ref q5, .null, .null, .null, .null, .null, .null])), (q1, .inr (6, [.ref (u2.getD 0 0), .int 0])), ((u2.getD 0 0), .inl ((kA X), 200, .inl (fun _ => 0))), (q3, .inr (4, [.ref q1, .ref (u4.getD 0 0), .int 0, .int 0, .int 0])), ((u4.getD 0 0), .inl ((kA X), 88, .inl (fun _ => 0))), (q5, .inr (0, [.int 0, .ref (u6.getD 0 0), .ref (u6.getD 1 0), .ref (u6.getD 2 0), .ref (u6.getD 3 0), .ref (u6.getD 4 0), .int 0, .int 0, .ref (u6.getD 5 0), .int 2, .int 20])), ((u6.getD 0 0), .inl ((kA X), 72, .inl (fun _ => 0))), ((u6.getD 1 0), .inl ((kA X), 56, .inl (fun _ => 0))), ((u6.getD 2 0), .inl ((kA X), 14, .inl (fun _ => 0))), ((u6.getD 3 0), .inl ((kA X), 14, .inl (fC 2000 14))), ((u6.getD 4 0), .inl ((kA X), 14, .inl (fun _ => 0))), ((u6.getD 5 0), .inl ((kA X), 52, .inl (fun _ => 0)))]) (d := d) hX (k_X8_init (by omega)) lq_RX9_34 mq_X8_init iq_X8_init rfl oq_X8_init (Nat.le_of_ble_eq_true rfl) [12] [0, 1, 2, 3, 4, 5, 6, 7, 8, 9, 10, 11] rfl rfl rfl rfl (by decide) rfl rfl (Nat.le_of_ble_eq_true rfl) (Nat.le_of_ble_eq_true rfl) (Nat.le_of_ble_eq_true rfl) dX9_init_50 (fun u8 => ?_)
  show kV X 16 589 53 [some (.ref h0)] [.ref q7, .ref h0] [(h0, .inr (9, [.ref q1, .ref q3, .ref q5, .null, .null, .null, .null, .null, .null])), (q1, .inr (6, [.ref (u2.getD 0 0), .int 0])), ((u2.getD 0 0), .inl ((kA X), 200, .inl (fun _ => 0))), (q3, .inr (4, [.ref q1, .ref (u4.getD 0 0), .int 0, .int 0, .int 0])), ((u4.getD 0 0), .inl ((kA X), 88, .inl (fun _ => 0))), (q5, .inr (0, [.int 0, .ref (u6.getD 0 0), .ref (u6.getD 1 0), .ref (u6.getD 2 0), .ref (u6.getD 3 0), .ref (u6.getD 4 0), .int 0, .int 0, .ref (u6.getD 5 0), .int 2, .int 20])), ((u6.getD 0 0), .inl ((kA X), 72, .inl (fun _ => 0))), ((u6.getD 1 0), .inl ((kA X), 56, .inl (fun _ => 0))), ((u6.getD 2 0), .inl ((kA X), 14, .inl (fun _ => 0))), ((u6.getD 3 0), .inl ((kA X), 14, .inl (fC 2000 14))), ((u6.getD 4 0), .inl ((kA X), 14, .inl (fun _ => 0))), ((u6.getD 5 0), .inl ((kA X), 52, .inl (fun _ => 0))), (q7, .inr (8, [.ref q5, .ref (u8.getD 0 0), .ref (u8.getD 1 0), .ref (u8.getD 2 0), .ref (u8.getD 3 0)])), ((u8.getD 0 0), .inl ((kA X), 14, .inl (fun _ => 0))), ((u8.getD 1 0), .inl ((kA X), 14, .inl (fun _ => 0))), ((u8.getD 2 0), .inl ((kA X), 14, .inl (fun _ => 0))), ((u8.getD 3 0), .inl ((kA X), 14, .inl (fun _ => 0)))]
  refine K_putF (q0 := 0) (ty := (.object "BentFurrows$Years")) hX hI kf_RX9_37 cl_9 kp_9_3 rfl (Nat.le_of_ble_eq_true rfl) rfl rfl dX9_init_53 ?_
  show kV X 16 589 56 [some (.ref h0)] [] [(h0, .inr (9, [.ref q1, .ref q3, .ref q5, .ref q7, .null, .null, .null, .null, .null])), (q1, .inr (6, [.ref (u2.getD 0 0), .int 0])), ((u2.getD 0 0), .inl ((kA X), 200, .inl (fun _ => 0))), (q3, .inr (4, [.ref q1, .ref (u4.getD 0 0), .int 0, .int 0, .int 0])), ((u4.getD 0 0), .inl ((kA X), 88, .inl (fun _ => 0))), (q5, .inr (0, [.int 0, .ref (u6.getD 0 0), .ref (u6.getD 1 0), .ref (u6.getD 2 0), .ref (u6.getD 3 0), .ref (u6.getD 4 0), .int 0, .int 0, .ref (u6.getD 5 0), .int 2, .int 20])), ((u6.getD 0 0), .inl ((kA X), 72, .inl (fun _ => 0))), ((u6.getD 1 0), .inl ((kA X), 56, .inl (fun _ => 0))), ((u6.getD 2 0), .inl ((kA X), 14, .inl (fun _ => 0))), ((u6.getD 3 0), .inl ((kA X), 14, .inl (fC 2000 14))), ((u6.getD 4 0), .inl ((kA X), 14, .inl (fun _ => 0))), ((u6.getD 5 0), .inl ((kA X), 52, .inl (fun _ => 0))), (q7, .inr (8, [.ref q5, .ref (u8.getD 0 0), .ref (u8.getD 1 0), .ref (u8.getD 2 0), .ref (u8.getD 3 0)])), ((u8.getD 0 0), .inl ((kA X), 14, .inl (fun _ => 0))), ((u8.getD 1 0), .inl ((kA X), 14, .inl (fun _ => 0))), ((u8.getD 2 0), .inl ((kA X), 14, .inl (fun _ => 0))), ((u8.getD 3 0), .inl ((kA X), 14, .inl (fun _ => 0)))]
  refine K_aload_n hX dX9_init_56 rfl rfl ?_
  refine K_new (ci := 1) (N := 3) (fs := [.null, .null, .null]) hX rfl cl_1 kn_RX9_41 kt_1 kd_1 (Nat.le_of_ble_eq_true rfl) (Nat.le_of_ble_eq_true rfl) dX9_init_57 (fun q9 => ?_)
  refine K_dup hX dX9_init_60 rfl ?_
  refine K_aload_n hX dX9_init_61 rfl rfl ?_
  refine K_getf (q0 := 0) hX kf_RX9_28 cl_9 rfl rfl dX9_init_62 ?_
  refine K_aload_n hX dX9_init_65 rfl rfl ?_
  refine K_getf (q0 := 0) hX kf_RX9_37 cl_9 rfl rfl dX9_init_66 ?_
  refine K_callI (As := [.ref q5, .ref q7]) (S := [.ref q9, .ref h0]) (wr := [(h0, .inr (9, [.ref q1, .ref q3, .ref q5, .ref q7, .null, .null, .null, .null, .null])), (q1, .inr (6, [.ref (u2.getD 0 0), .int 0])), ((u2.getD 0 0), .inl ((kA X), 200, .inl (fun _ => 0))), (q3, .inr (4, [.ref q1, .ref (u4.getD 0 0), .int 0, .int 0, .int 0])), ((u4.getD 0 0), .inl ((kA X), 88, .inl (fun _ => 0))), (q5, .inr (0, [.int 0, .ref (u6.getD 0 0), .ref (u6.getD 1 0), .ref (u6.getD 2 0), .ref (u6.getD 3 0), .ref (u6.getD 4 0), .int 0, .int 0, .ref (u6.getD 5 0), .int 2, .int 20])), ((u6.getD 0 0), .inl ((kA X), 72, .inl (fun _ => 0))), ((u6.getD 1 0), .inl ((kA X), 56, .inl (fun _ => 0))), ((u6.getD 2 0), .inl ((kA X), 14, .inl (fun _ => 0))), ((u6.getD 3 0), .inl ((kA X), 14, .inl (fC 2000 14))), ((u6.getD 4 0), .inl ((kA X), 14, .inl (fun _ => 0))), ((u6.getD 5 0), .inl ((kA X), 52, .inl (fun _ => 0))), (q7, .inr (8, [.ref q5, .ref (u8.getD 0 0), .ref (u8.getD 1 0), .ref (u8.getD 2 0), .ref (u8.getD 3 0)])), ((u8.getD 0 0), .inl ((kA X), 14, .inl (fun _ => 0))), ((u8.getD 1 0), .inl ((kA X), 14, .inl (fun _ => 0))), ((u8.getD 2 0), .inl ((kA X), 14, .inl (fun _ => 0))), ((u8.getD 3 0), .inl ((kA X), 14, .inl (fun _ => 0)))]) (d := d) hX (k_X1_init (by omega)) lq_RX9_43 mq_X1_init iq_X1_init rfl oq_X1_init (Nat.le_of_ble_eq_true rfl) [17] [0, 1, 2, 3, 4, 5, 6, 7, 8, 9, 10, 11, 12, 13, 14, 15, 16] rfl rfl rfl rfl (by decide) rfl rfl (Nat.le_of_ble_eq_true rfl) (Nat.le_of_ble_eq_true rfl) (Nat.le_of_ble_eq_true rfl) dX9_init_69 (fun u10 => ?_)
  show kV X 18 600 72 [some (.ref h0)] [.ref q9, .ref h0] [(h0, .inr (9, [.ref q1, .ref q3, .ref q5, .ref q7, .null, .null, .null, .null, .null])), (q1, .inr (6, [.ref (u2.getD 0 0), .int 0])), ((u2.getD 0 0), .inl ((kA X), 200, .inl (fun _ => 0))), (q3, .inr (4, [.ref q1, .ref (u4.getD 0 0), .int 0, .int 0, .int 0])), ((u4.getD 0 0), .inl ((kA X), 88, .inl (fun _ => 0))), (q5, .inr (0, [.int 0, .ref (u6.getD 0 0), .ref (u6.getD 1 0), .ref (u6.getD 2 0), .ref (u6.getD 3 0), .ref (u6.getD 4 0), .int 0, .int 0, .ref (u6.getD 5 0), .int 2, .int 20])), ((u6.getD 0 0), .inl ((kA X), 72, .inl (fun _ => 0))), ((u6.getD 1 0), .inl ((kA X), 56, .inl (fun _ => 0))), ((u6.getD 2 0), .inl ((kA X), 14, .inl (fun _ => 0))), ((u6.getD 3 0), .inl ((kA X), 14, .inl (fC 2000 14))), ((u6.getD 4 0), .inl ((kA X), 14, .inl (fun _ => 0))), ((u6.getD 5 0), .inl ((kA X), 52, .inl (fun _ => 0))), (q7, .inr (8, [.ref q5, .ref (u8.getD 0 0), .ref (u8.getD 1 0), .ref (u8.getD 2 0), .ref (u8.getD 3 0)])), ((u8.getD 0 0), .inl ((kA X), 14, .inl (fun _ => 0))), ((u8.getD 1 0), .inl ((kA X), 14, .inl (fun _ => 0))), ((u8.getD 2 0), .inl ((kA X), 14, .inl (fun _ => 0))), ((u8.getD 3 0), .inl ((kA X), 14, .inl (fun _ => 0))), (q9, .inr (1, [.ref q5, .ref q7, .ref (u10.getD 0 0)])), ((u10.getD 0 0), .inl ((kA X), 8, .inl (fun _ => 0)))]
  refine K_putF (q0 := 0) (ty := (.object "BentFurrows$Joints")) hX hI kf_RX9_46 cl_9 kp_9_4 rfl (Nat.le_of_ble_eq_true rfl) rfl rfl dX9_init_72 ?_
  show kV X 18 600 75 [some (.ref h0)] [] [(h0, .inr (9, [.ref q1, .ref q3, .ref q5, .ref q7, .ref q9, .null, .null, .null, .null])), (q1, .inr (6, [.ref (u2.getD 0 0), .int 0])), ((u2.getD 0 0), .inl ((kA X), 200, .inl (fun _ => 0))), (q3, .inr (4, [.ref q1, .ref (u4.getD 0 0), .int 0, .int 0, .int 0])), ((u4.getD 0 0), .inl ((kA X), 88, .inl (fun _ => 0))), (q5, .inr (0, [.int 0, .ref (u6.getD 0 0), .ref (u6.getD 1 0), .ref (u6.getD 2 0), .ref (u6.getD 3 0), .ref (u6.getD 4 0), .int 0, .int 0, .ref (u6.getD 5 0), .int 2, .int 20])), ((u6.getD 0 0), .inl ((kA X), 72, .inl (fun _ => 0))), ((u6.getD 1 0), .inl ((kA X), 56, .inl (fun _ => 0))), ((u6.getD 2 0), .inl ((kA X), 14, .inl (fun _ => 0))), ((u6.getD 3 0), .inl ((kA X), 14, .inl (fC 2000 14))), ((u6.getD 4 0), .inl ((kA X), 14, .inl (fun _ => 0))), ((u6.getD 5 0), .inl ((kA X), 52, .inl (fun _ => 0))), (q7, .inr (8, [.ref q5, .ref (u8.getD 0 0), .ref (u8.getD 1 0), .ref (u8.getD 2 0), .ref (u8.getD 3 0)])), ((u8.getD 0 0), .inl ((kA X), 14, .inl (fun _ => 0))), ((u8.getD 1 0), .inl ((kA X), 14, .inl (fun _ => 0))), ((u8.getD 2 0), .inl ((kA X), 14, .inl (fun _ => 0))), ((u8.getD 3 0), .inl ((kA X), 14, .inl (fun _ => 0))), (q9, .inr (1, [.ref q5, .ref q7, .ref (u10.getD 0 0)])), ((u10.getD 0 0), .inl ((kA X), 8, .inl (fun _ => 0)))]
  refine K_aload_n hX dX9_init_75 rfl rfl ?_
  refine K_new (ci := 3) (N := 2) (fs := [.null, .null]) hX rfl cl_3 kn_RX9_50 kt_3 kd_3 (Nat.le_of_ble_eq_true rfl) (Nat.le_of_ble_eq_true rfl) dX9_init_76 (fun q11 => ?_)
  refine K_dup hX dX9_init_79 rfl ?_
  refine K_aload_n hX dX9_init_80 rfl rfl ?_
  refine K_getf (q0 := 0) hX kf_RX9_28 cl_9 rfl rfl dX9_init_81 ?_
  refine K_aload_n hX dX9_init_84 rfl rfl ?_
  refine K_getf (q0 := 0) hX kf_RX9_37 cl_9 rfl rfl dX9_init_85 ?_
  refine K_callI (As := [.ref q5, .ref q7]) (S := [.ref q11, .ref h0]) (wr := [(h0, .inr (9, [.ref q1, .ref q3, .ref q5, .ref q7, .ref q9, .null, .null, .null, .null])), (q1, .inr (6, [.ref (u2.getD 0 0), .int 0])), ((u2.getD 0 0), .inl ((kA X), 200, .inl (fun _ => 0))), (q3, .inr (4, [.ref q1, .ref (u4.getD 0 0), .int 0, .int 0, .int 0])), ((u4.getD 0 0), .inl ((kA X), 88, .inl (fun _ => 0))), (q5, .inr (0, [.int 0, .ref (u6.getD 0 0), .ref (u6.getD 1 0), .ref (u6.getD 2 0), .ref (u6.getD 3 0), .ref (u6.getD 4 0), .int 0, .int 0, .ref (u6.getD 5 0), .int 2, .int 20])), ((u6.getD 0 0), .inl ((kA X), 72, .inl (fun _ => 0))), ((u6.getD 1 0), .inl ((kA X), 56, .inl (fun _ => 0))), ((u6.getD 2 0), .inl ((kA X), 14, .inl (fun _ => 0))), ((u6.getD 3 0), .inl ((kA X), 14, .inl (fC 2000 14))), ((u6.getD 4 0), .inl ((kA X), 14, .inl (fun _ => 0))), ((u6.getD 5 0), .inl ((kA X), 52, .inl (fun _ => 0))), (q7, .inr (8, [.ref q5, .ref (u8.getD 0 0), .ref (u8.getD 1 0), .ref (u8.getD 2 0), .ref (u8.getD 3 0)])), ((u8.getD 0 0), .inl ((kA X), 14, .inl (fun _ => 0))), ((u8.getD 1 0), .inl ((kA X), 14, .inl (fun _ => 0))), ((u8.getD 2 0), .inl ((kA X), 14, .inl (fun _ => 0))), ((u8.getD 3 0), .inl ((kA X), 14, .inl (fun _ => 0))), (q9, .inr (1, [.ref q5, .ref q7, .ref (u10.getD 0 0)])), ((u10.getD 0 0), .inl ((kA X), 8, .inl (fun _ => 0)))]) (d := d) hX (k_X3_init (by omega)) lq_RX9_52 mq_X3_init iq_X3_init rfl oq_X3_init (Nat.le_of_ble_eq_true rfl) [19] [0, 1, 2, 3, 4, 5, 6, 7, 8, 9, 10, 11, 12, 13, 14, 15, 16, 17, 18] rfl rfl rfl rfl (by decide) rfl rfl (Nat.le_of_ble_eq_true rfl) (Nat.le_of_ble_eq_true rfl) (Nat.le_of_ble_eq_true rfl) dX9_init_88 (fun u12 => ?_)
  show kV X 19 602 91 [some (.ref h0)] [.ref q11, .ref h0] [(h0, .inr (9, [.ref q1, .ref q3, .ref q5, .ref q7, .ref q9, .null, .null, .null, .null])), (q1, .inr (6, [.ref (u2.getD 0 0), .int 0])), ((u2.getD 0 0), .inl ((kA X), 200, .inl (fun _ => 0))), (q3, .inr (4, [.ref q1, .ref (u4.getD 0 0), .int 0, .int 0, .int 0])), ((u4.getD 0 0), .inl ((kA X), 88, .inl (fun _ => 0))), (q5, .inr (0, [.int 0, .ref (u6.getD 0 0), .ref (u6.getD 1 0), .ref (u6.getD 2 0), .ref (u6.getD 3 0), .ref (u6.getD 4 0), .int 0, .int 0, .ref (u6.getD 5 0), .int 2, .int 20])), ((u6.getD 0 0), .inl ((kA X), 72, .inl (fun _ => 0))), ((u6.getD 1 0), .inl ((kA X), 56, .inl (fun _ => 0))), ((u6.getD 2 0), .inl ((kA X), 14, .inl (fun _ => 0))), ((u6.getD 3 0), .inl ((kA X), 14, .inl (fC 2000 14))), ((u6.getD 4 0), .inl ((kA X), 14, .inl (fun _ => 0))), ((u6.getD 5 0), .inl ((kA X), 52, .inl (fun _ => 0))), (q7, .inr (8, [.ref q5, .ref (u8.getD 0 0), .ref (u8.getD 1 0), .ref (u8.getD 2 0), .ref (u8.getD 3 0)])), ((u8.getD 0 0), .inl ((kA X), 14, .inl (fun _ => 0))), ((u8.getD 1 0), .inl ((kA X), 14, .inl (fun _ => 0))), ((u8.getD 2 0), .inl ((kA X), 14, .inl (fun _ => 0))), ((u8.getD 3 0), .inl ((kA X), 14, .inl (fun _ => 0))), (q9, .inr (1, [.ref q5, .ref q7, .ref (u10.getD 0 0)])), ((u10.getD 0 0), .inl ((kA X), 8, .inl (fun _ => 0))), (q11, .inr (3, [.ref q5, .ref q7]))]
  refine K_putF (q0 := 0) (ty := (.object "BentFurrows$Ploughland")) hX hI kf_RX9_53 cl_9 kp_9_5 rfl (Nat.le_of_ble_eq_true rfl) rfl rfl dX9_init_91 ?_
  show kV X 19 602 94 [some (.ref h0)] [] [(h0, .inr (9, [.ref q1, .ref q3, .ref q5, .ref q7, .ref q9, .ref q11, .null, .null, .null])), (q1, .inr (6, [.ref (u2.getD 0 0), .int 0])), ((u2.getD 0 0), .inl ((kA X), 200, .inl (fun _ => 0))), (q3, .inr (4, [.ref q1, .ref (u4.getD 0 0), .int 0, .int 0, .int 0])), ((u4.getD 0 0), .inl ((kA X), 88, .inl (fun _ => 0))), (q5, .inr (0, [.int 0, .ref (u6.getD 0 0), .ref (u6.getD 1 0), .ref (u6.getD 2 0), .ref (u6.getD 3 0), .ref (u6.getD 4 0), .int 0, .int 0, .ref (u6.getD 5 0), .int 2, .int 20])), ((u6.getD 0 0), .inl ((kA X), 72, .inl (fun _ => 0))), ((u6.getD 1 0), .inl ((kA X), 56, .inl (fun _ => 0))), ((u6.getD 2 0), .inl ((kA X), 14, .inl (fun _ => 0))), ((u6.getD 3 0), .inl ((kA X), 14, .inl (fC 2000 14))), ((u6.getD 4 0), .inl ((kA X), 14, .inl (fun _ => 0))), ((u6.getD 5 0), .inl ((kA X), 52, .inl (fun _ => 0))), (q7, .inr (8, [.ref q5, .ref (u8.getD 0 0), .ref (u8.getD 1 0), .ref (u8.getD 2 0), .ref (u8.getD 3 0)])), ((u8.getD 0 0), .inl ((kA X), 14, .inl (fun _ => 0))), ((u8.getD 1 0), .inl ((kA X), 14, .inl (fun _ => 0))), ((u8.getD 2 0), .inl ((kA X), 14, .inl (fun _ => 0))), ((u8.getD 3 0), .inl ((kA X), 14, .inl (fun _ => 0))), (q9, .inr (1, [.ref q5, .ref q7, .ref (u10.getD 0 0)])), ((u10.getD 0 0), .inl ((kA X), 8, .inl (fun _ => 0))), (q11, .inr (3, [.ref q5, .ref q7]))]
  refine K_aload_n hX dX9_init_94 rfl rfl ?_
  refine K_new (ci := 5) (N := 9) (fs := [.null, .null, .null, .null, .null, .null, .null, .int 0, .int 0]) hX rfl cl_5 kn_RX9_57 kt_5 kd_5 (Nat.le_of_ble_eq_true rfl) (Nat.le_of_ble_eq_true rfl) dX9_init_95 (fun q13 => ?_)
  refine K_dup hX dX9_init_98 rfl ?_
  refine K_aload_n hX dX9_init_99 rfl rfl ?_
  refine K_getf (q0 := 0) hX kf_RX9_28 cl_9 rfl rfl dX9_init_100 ?_
  refine K_callI (As := [.ref q5]) (S := [.ref q13, .ref h0]) (wr := [(h0, .inr (9, [.ref q1, .ref q3, .ref q5, .ref q7, .ref q9, .ref q11, .null, .null, .null])), (q1, .inr (6, [.ref (u2.getD 0 0), .int 0])), ((u2.getD 0 0), .inl ((kA X), 200, .inl (fun _ => 0))), (q3, .inr (4, [.ref q1, .ref (u4.getD 0 0), .int 0, .int 0, .int 0])), ((u4.getD 0 0), .inl ((kA X), 88, .inl (fun _ => 0))), (q5, .inr (0, [.int 0, .ref (u6.getD 0 0), .ref (u6.getD 1 0), .ref (u6.getD 2 0), .ref (u6.getD 3 0), .ref (u6.getD 4 0), .int 0, .int 0, .ref (u6.getD 5 0), .int 2, .int 20])), ((u6.getD 0 0), .inl ((kA X), 72, .inl (fun _ => 0))), ((u6.getD 1 0), .inl ((kA X), 56, .inl (fun _ => 0))), ((u6.getD 2 0), .inl ((kA X), 14, .inl (fun _ => 0))), ((u6.getD 3 0), .inl ((kA X), 14, .inl (fC 2000 14))), ((u6.getD 4 0), .inl ((kA X), 14, .inl (fun _ => 0))), ((u6.getD 5 0), .inl ((kA X), 52, .inl (fun _ => 0))), (q7, .inr (8, [.ref q5, .ref (u8.getD 0 0), .ref (u8.getD 1 0), .ref (u8.getD 2 0), .ref (u8.getD 3 0)])), ((u8.getD 0 0), .inl ((kA X), 14, .inl (fun _ => 0))), ((u8.getD 1 0), .inl ((kA X), 14, .inl (fun _ => 0))), ((u8.getD 2 0), .inl ((kA X), 14, .inl (fun _ => 0))), ((u8.getD 3 0), .inl ((kA X), 14, .inl (fun _ => 0))), (q9, .inr (1, [.ref q5, .ref q7, .ref (u10.getD 0 0)])), ((u10.getD 0 0), .inl ((kA X), 8, .inl (fun _ => 0))), (q11, .inr (3, [.ref q5, .ref q7]))]) (d := d) hX (k_X5_init (by omega)) lq_RX9_59 mq_X5_init iq_X5_init rfl oq_X5_init (Nat.le_of_ble_eq_true rfl) [20] [0, 1, 2, 3, 4, 5, 6, 7, 8, 9, 10, 11, 12, 13, 14, 15, 16, 17, 18, 19] rfl rfl rfl rfl (by decide) rfl rfl (Nat.le_of_ble_eq_true rfl) (Nat.le_of_ble_eq_true rfl) (Nat.le_of_ble_eq_true rfl) dX9_init_103 (fun u14 => ?_)
  show kV X 26 644 106 [some (.ref h0)] [.ref q13, .ref h0] [(h0, .inr (9, [.ref q1, .ref q3, .ref q5, .ref q7, .ref q9, .ref q11, .null, .null, .null])), (q1, .inr (6, [.ref (u2.getD 0 0), .int 0])), ((u2.getD 0 0), .inl ((kA X), 200, .inl (fun _ => 0))), (q3, .inr (4, [.ref q1, .ref (u4.getD 0 0), .int 0, .int 0, .int 0])), ((u4.getD 0 0), .inl ((kA X), 88, .inl (fun _ => 0))), (q5, .inr (0, [.int 0, .ref (u6.getD 0 0), .ref (u6.getD 1 0), .ref (u6.getD 2 0), .ref (u6.getD 3 0), .ref (u6.getD 4 0), .int 0, .int 0, .ref (u6.getD 5 0), .int 2, .int 20])), ((u6.getD 0 0), .inl ((kA X), 72, .inl (fun _ => 0))), ((u6.getD 1 0), .inl ((kA X), 56, .inl (fun _ => 0))), ((u6.getD 2 0), .inl ((kA X), 14, .inl (fun _ => 0))), ((u6.getD 3 0), .inl ((kA X), 14, .inl (fC 2000 14))), ((u6.getD 4 0), .inl ((kA X), 14, .inl (fun _ => 0))), ((u6.getD 5 0), .inl ((kA X), 52, .inl (fun _ => 0))), (q7, .inr (8, [.ref q5, .ref (u8.getD 0 0), .ref (u8.getD 1 0), .ref (u8.getD 2 0), .ref (u8.getD 3 0)])), ((u8.getD 0 0), .inl ((kA X), 14, .inl (fun _ => 0))), ((u8.getD 1 0), .inl ((kA X), 14, .inl (fun _ => 0))), ((u8.getD 2 0), .inl ((kA X), 14, .inl (fun _ => 0))), ((u8.getD 3 0), .inl ((kA X), 14, .inl (fun _ => 0))), (q9, .inr (1, [.ref q5, .ref q7, .ref (u10.getD 0 0)])), ((u10.getD 0 0), .inl ((kA X), 8, .inl (fun _ => 0))), (q11, .inr (3, [.ref q5, .ref q7])), (q13, .inr (5, [.ref q5, .ref (u14.getD 0 0), .ref (u14.getD 1 0), .ref (u14.getD 2 0), .ref (u14.getD 3 0), .ref (u14.getD 4 0), .ref (u14.getD 5 0), .int 0, .int 0])), ((u14.getD 0 0), .inl ((kA X), 5, .inl (fun _ => 0))), ((u14.getD 1 0), .inl ((kA X), 5, .inl (fun _ => 0))), ((u14.getD 2 0), .inl ((kA X), 5, .inl (fun _ => 0))), ((u14.getD 3 0), .inl ((kA X), 8, .inl (fun _ => 0))), ((u14.getD 4 0), .inl ((kA X), 5, .inl (fun _ => 0))), ((u14.getD 5 0), .inl ((kA X), 5, .inl (fun _ => 0)))]
  refine K_putF (q0 := 0) (ty := (.object "BentFurrows$Terriers")) hX hI kf_RX9_60 cl_9 kp_9_6 rfl (Nat.le_of_ble_eq_true rfl) rfl rfl dX9_init_106 ?_
  show kV X 26 644 109 [some (.ref h0)] [] [(h0, .inr (9, [.ref q1, .ref q3, .ref q5, .ref q7, .ref q9, .ref q11, .ref q13, .null, .null])), (q1, .inr (6, [.ref (u2.getD 0 0), .int 0])), ((u2.getD 0 0), .inl ((kA X), 200, .inl (fun _ => 0))), (q3, .inr (4, [.ref q1, .ref (u4.getD 0 0), .int 0, .int 0, .int 0])), ((u4.getD 0 0), .inl ((kA X), 88, .inl (fun _ => 0))), (q5, .inr (0, [.int 0, .ref (u6.getD 0 0), .ref (u6.getD 1 0), .ref (u6.getD 2 0), .ref (u6.getD 3 0), .ref (u6.getD 4 0), .int 0, .int 0, .ref (u6.getD 5 0), .int 2, .int 20])), ((u6.getD 0 0), .inl ((kA X), 72, .inl (fun _ => 0))), ((u6.getD 1 0), .inl ((kA X), 56, .inl (fun _ => 0))), ((u6.getD 2 0), .inl ((kA X), 14, .inl (fun _ => 0))), ((u6.getD 3 0), .inl ((kA X), 14, .inl (fC 2000 14))), ((u6.getD 4 0), .inl ((kA X), 14, .inl (fun _ => 0))), ((u6.getD 5 0), .inl ((kA X), 52, .inl (fun _ => 0))), (q7, .inr (8, [.ref q5, .ref (u8.getD 0 0), .ref (u8.getD 1 0), .ref (u8.getD 2 0), .ref (u8.getD 3 0)])), ((u8.getD 0 0), .inl ((kA X), 14, .inl (fun _ => 0))), ((u8.getD 1 0), .inl ((kA X), 14, .inl (fun _ => 0))), ((u8.getD 2 0), .inl ((kA X), 14, .inl (fun _ => 0))), ((u8.getD 3 0), .inl ((kA X), 14, .inl (fun _ => 0))), (q9, .inr (1, [.ref q5, .ref q7, .ref (u10.getD 0 0)])), ((u10.getD 0 0), .inl ((kA X), 8, .inl (fun _ => 0))), (q11, .inr (3, [.ref q5, .ref q7])), (q13, .inr (5, [.ref q5, .ref (u14.getD 0 0), .ref (u14.getD 1 0), .ref (u14.getD 2 0), .ref (u14.getD 3 0), .ref (u14.getD 4 0), .ref (u14.getD 5 0), .int 0, .int 0])), ((u14.getD 0 0), .inl ((kA X), 5, .inl (fun _ => 0))), ((u14.getD 1 0), .inl ((kA X), 5, .inl (fun _ => 0))), ((u14.getD 2 0), .inl ((kA X), 5, .inl (fun _ => 0))), ((u14.getD 3 0), .inl ((kA X), 8, .inl (fun _ => 0))), ((u14.getD 4 0), .inl ((kA X), 5, .inl (fun _ => 0))), ((u14.getD 5 0), .inl ((kA X), 5, .inl (fun _ => 0)))]
  refine K_aload_n hX dX9_init_109 rfl rfl ?_
  refine K_new (ci := 7) (N := 1) (fs := [.null]) hX rfl cl_7 kn_RX9_64 kt_7 kd_7 (Nat.le_of_ble_eq_true rfl) (Nat.le_of_ble_eq_true rfl) dX9_init_110 (fun q15 => ?_)
  refine K_dup hX dX9_init_113 rfl ?_
  refine K_callI (As := []) (S := [.ref q15, .ref h0]) (wr := [(h0, .inr (9, [.ref q1, .ref q3, .ref q5, .ref q7, .ref q9, .ref q11, .ref q13, .null, .null])), (q1, .inr (6, [.ref (u2.getD 0 0), .int 0])), ((u2.getD 0 0), .inl ((kA X), 200, .inl (fun _ => 0))), (q3, .inr (4, [.ref q1, .ref (u4.getD 0 0), .int 0, .int 0, .int 0])), ((u4.getD 0 0), .inl ((kA X), 88, .inl (fun _ => 0))), (q5, .inr (0, [.int 0, .ref (u6.getD 0 0), .ref (u6.getD 1 0), .ref (u6.getD 2 0), .ref (u6.getD 3 0), .ref (u6.getD 4 0), .int 0, .int 0, .ref (u6.getD 5 0), .int 2, .int 20])), ((u6.getD 0 0), .inl ((kA X), 72, .inl (fun _ => 0))), ((u6.getD 1 0), .inl ((kA X), 56, .inl (fun _ => 0))), ((u6.getD 2 0), .inl ((kA X), 14, .inl (fun _ => 0))), ((u6.getD 3 0), .inl ((kA X), 14, .inl (fC 2000 14))), ((u6.getD 4 0), .inl ((kA X), 14, .inl (fun _ => 0))), ((u6.getD 5 0), .inl ((kA X), 52, .inl (fun _ => 0))), (q7, .inr (8, [.ref q5, .ref (u8.getD 0 0), .ref (u8.getD 1 0), .ref (u8.getD 2 0), .ref (u8.getD 3 0)])), ((u8.getD 0 0), .inl ((kA X), 14, .inl (fun _ => 0))), ((u8.getD 1 0), .inl ((kA X), 14, .inl (fun _ => 0))), ((u8.getD 2 0), .inl ((kA X), 14, .inl (fun _ => 0))), ((u8.getD 3 0), .inl ((kA X), 14, .inl (fun _ => 0))), (q9, .inr (1, [.ref q5, .ref q7, .ref (u10.getD 0 0)])), ((u10.getD 0 0), .inl ((kA X), 8, .inl (fun _ => 0))), (q11, .inr (3, [.ref q5, .ref q7])), (q13, .inr (5, [.ref q5, .ref (u14.getD 0 0), .ref (u14.getD 1 0), .ref (u14.getD 2 0), .ref (u14.getD 3 0), .ref (u14.getD 4 0), .ref (u14.getD 5 0), .int 0, .int 0])), ((u14.getD 0 0), .inl ((kA X), 5, .inl (fun _ => 0))), ((u14.getD 1 0), .inl ((kA X), 5, .inl (fun _ => 0))), ((u14.getD 2 0), .inl ((kA X), 5, .inl (fun _ => 0))), ((u14.getD 3 0), .inl ((kA X), 8, .inl (fun _ => 0))), ((u14.getD 4 0), .inl ((kA X), 5, .inl (fun _ => 0))), ((u14.getD 5 0), .inl ((kA X), 5, .inl (fun _ => 0)))]) (d := d) hX (k_X7_init (by omega)) lq_RX9_66 mq_X7_init iq_X7_init rfl oq_X7_init (Nat.le_of_ble_eq_true rfl) [27] [0, 1, 2, 3, 4, 5, 6, 7, 8, 9, 10, 11, 12, 13, 14, 15, 16, 17, 18, 19, 20, 21, 22, 23, 24, 25, 26] rfl rfl rfl rfl (by decide) rfl rfl (Nat.le_of_ble_eq_true rfl) (Nat.le_of_ble_eq_true rfl) (Nat.le_of_ble_eq_true rfl) dX9_init_114 (fun u16 => ?_)
  show kV X 28 675 117 [some (.ref h0)] [.ref q15, .ref h0] [(h0, .inr (9, [.ref q1, .ref q3, .ref q5, .ref q7, .ref q9, .ref q11, .ref q13, .null, .null])), (q1, .inr (6, [.ref (u2.getD 0 0), .int 0])), ((u2.getD 0 0), .inl ((kA X), 200, .inl (fun _ => 0))), (q3, .inr (4, [.ref q1, .ref (u4.getD 0 0), .int 0, .int 0, .int 0])), ((u4.getD 0 0), .inl ((kA X), 88, .inl (fun _ => 0))), (q5, .inr (0, [.int 0, .ref (u6.getD 0 0), .ref (u6.getD 1 0), .ref (u6.getD 2 0), .ref (u6.getD 3 0), .ref (u6.getD 4 0), .int 0, .int 0, .ref (u6.getD 5 0), .int 2, .int 20])), ((u6.getD 0 0), .inl ((kA X), 72, .inl (fun _ => 0))), ((u6.getD 1 0), .inl ((kA X), 56, .inl (fun _ => 0))), ((u6.getD 2 0), .inl ((kA X), 14, .inl (fun _ => 0))), ((u6.getD 3 0), .inl ((kA X), 14, .inl (fC 2000 14))), ((u6.getD 4 0), .inl ((kA X), 14, .inl (fun _ => 0))), ((u6.getD 5 0), .inl ((kA X), 52, .inl (fun _ => 0))), (q7, .inr (8, [.ref q5, .ref (u8.getD 0 0), .ref (u8.getD 1 0), .ref (u8.getD 2 0), .ref (u8.getD 3 0)])), ((u8.getD 0 0), .inl ((kA X), 14, .inl (fun _ => 0))), ((u8.getD 1 0), .inl ((kA X), 14, .inl (fun _ => 0))), ((u8.getD 2 0), .inl ((kA X), 14, .inl (fun _ => 0))), ((u8.getD 3 0), .inl ((kA X), 14, .inl (fun _ => 0))), (q9, .inr (1, [.ref q5, .ref q7, .ref (u10.getD 0 0)])), ((u10.getD 0 0), .inl ((kA X), 8, .inl (fun _ => 0))), (q11, .inr (3, [.ref q5, .ref q7])), (q13, .inr (5, [.ref q5, .ref (u14.getD 0 0), .ref (u14.getD 1 0), .ref (u14.getD 2 0), .ref (u14.getD 3 0), .ref (u14.getD 4 0), .ref (u14.getD 5 0), .int 0, .int 0])), ((u14.getD 0 0), .inl ((kA X), 5, .inl (fun _ => 0))), ((u14.getD 1 0), .inl ((kA X), 5, .inl (fun _ => 0))), ((u14.getD 2 0), .inl ((kA X), 5, .inl (fun _ => 0))), ((u14.getD 3 0), .inl ((kA X), 8, .inl (fun _ => 0))), ((u14.getD 4 0), .inl ((kA X), 5, .inl (fun _ => 0))), ((u14.getD 5 0), .inl ((kA X), 5, .inl (fun _ => 0))), (q15, .inr (7, [.ref (u16.getD 0 0)])), ((u16.getD 0 0), .inl ((kA X), 30, .inl (fC (-1) 30)))]
  refine K_putF (q0 := 0) (ty := (.object "BentFurrows$Turns")) hX hI kf_RX9_67 cl_9 kp_9_7 rfl (Nat.le_of_ble_eq_true rfl) rfl rfl dX9_init_117 ?_
  show kV X 28 675 120 [some (.ref h0)] [] [(h0, .inr (9, [.ref q1, .ref q3, .ref q5, .ref q7, .ref q9, .ref q11, .ref q13, .ref q15, .null])), (q1, .inr (6, [.ref (u2.getD 0 0), .int 0])), ((u2.getD 0 0), .inl ((kA X), 200, .inl (fun _ => 0))), (q3, .inr (4, [.ref q1, .ref (u4.getD 0 0), .int 0, .int 0, .int 0])), ((u4.getD 0 0), .inl ((kA X), 88, .inl (fun _ => 0))), (q5, .inr (0, [.int 0, .ref (u6.getD 0 0), .ref (u6.getD 1 0), .ref (u6.getD 2 0), .ref (u6.getD 3 0), .ref (u6.getD 4 0), .int 0, .int 0, .ref (u6.getD 5 0), .int 2, .int 20])), ((u6.getD 0 0), .inl ((kA X), 72, .inl (fun _ => 0))), ((u6.getD 1 0), .inl ((kA X), 56, .inl (fun _ => 0))), ((u6.getD 2 0), .inl ((kA X), 14, .inl (fun _ => 0))), ((u6.getD 3 0), .inl ((kA X), 14, .inl (fC 2000 14))), ((u6.getD 4 0), .inl ((kA X), 14, .inl (fun _ => 0))), ((u6.getD 5 0), .inl ((kA X), 52, .inl (fun _ => 0))), (q7, .inr (8, [.ref q5, .ref (u8.getD 0 0), .ref (u8.getD 1 0), .ref (u8.getD 2 0), .ref (u8.getD 3 0)])), ((u8.getD 0 0), .inl ((kA X), 14, .inl (fun _ => 0))), ((u8.getD 1 0), .inl ((kA X), 14, .inl (fun _ => 0))), ((u8.getD 2 0), .inl ((kA X), 14, .inl (fun _ => 0))), ((u8.getD 3 0), .inl ((kA X), 14, .inl (fun _ => 0))), (q9, .inr (1, [.ref q5, .ref q7, .ref (u10.getD 0 0)])), ((u10.getD 0 0), .inl ((kA X), 8, .inl (fun _ => 0))), (q11, .inr (3, [.ref q5, .ref q7])), (q13, .inr (5, [.ref q5, .ref (u14.getD 0 0), .ref (u14.getD 1 0), .ref (u14.getD 2 0), .ref (u14.getD 3 0), .ref (u14.getD 4 0), .ref (u14.getD 5 0), .int 0, .int 0])), ((u14.getD 0 0), .inl ((kA X), 5, .inl (fun _ => 0))), ((u14.getD 1 0), .inl ((kA X), 5, .inl (fun _ => 0))), ((u14.getD 2 0), .inl ((kA X), 5, .inl (fun _ => 0))), ((u14.getD 3 0), .inl ((kA X), 8, .inl (fun _ => 0))), ((u14.getD 4 0), .inl ((kA X), 5, .inl (fun _ => 0))), ((u14.getD 5 0), .inl ((kA X), 5, .inl (fun _ => 0))), (q15, .inr (7, [.ref (u16.getD 0 0)])), ((u16.getD 0 0), .inl ((kA X), 30, .inl (fC (-1) 30)))]
  refine K_aload_n hX dX9_init_120 rfl rfl ?_
  refine K_new (ci := 2) (N := 5) (fs := [.null, .null, .null, .null, .int 0]) hX rfl cl_2 kn_RX9_71 kt_2 kd_2 (Nat.le_of_ble_eq_true rfl) (Nat.le_of_ble_eq_true rfl) dX9_init_121 (fun q17 => ?_)
  refine K_dup hX dX9_init_124 rfl ?_
  refine K_aload_n hX dX9_init_125 rfl rfl ?_
  refine K_getf (q0 := 0) hX kf_RX9_28 cl_9 rfl rfl dX9_init_126 ?_
  refine K_callI (As := [.ref q5]) (S := [.ref q17, .ref h0]) (wr := [(h0, .inr (9, [.ref q1, .ref q3, .ref q5, .ref q7, .ref q9, .ref q11, .ref q13, .ref q15, .null])), (q1, .inr (6, [.ref (u2.getD 0 0), .int 0])), ((u2.getD 0 0), .inl ((kA X), 200, .inl (fun _ => 0))), (q3, .inr (4, [.ref q1, .ref (u4.getD 0 0), .int 0, .int 0, .int 0])), ((u4.getD 0 0), .inl ((kA X), 88, .inl (fun _ => 0))), (q5, .inr (0, [.int 0, .ref (u6.getD 0 0), .ref (u6.getD 1 0), .ref (u6.getD 2 0), .ref (u6.getD 3 0), .ref (u6.getD 4 0), .int 0, .int 0, .ref (u6.getD 5 0), .int 2, .int 20])), ((u6.getD 0 0), .inl ((kA X), 72, .inl (fun _ => 0))), ((u6.getD 1 0), .inl ((kA X), 56, .inl (fun _ => 0))), ((u6.getD 2 0), .inl ((kA X), 14, .inl (fun _ => 0))), ((u6.getD 3 0), .inl ((kA X), 14, .inl (fC 2000 14))), ((u6.getD 4 0), .inl ((kA X), 14, .inl (fun _ => 0))), ((u6.getD 5 0), .inl ((kA X), 52, .inl (fun _ => 0))), (q7, .inr (8, [.ref q5, .ref (u8.getD 0 0), .ref (u8.getD 1 0), .ref (u8.getD 2 0), .ref (u8.getD 3 0)])), ((u8.getD 0 0), .inl ((kA X), 14, .inl (fun _ => 0))), ((u8.getD 1 0), .inl ((kA X), 14, .inl (fun _ => 0))), ((u8.getD 2 0), .inl ((kA X), 14, .inl (fun _ => 0))), ((u8.getD 3 0), .inl ((kA X), 14, .inl (fun _ => 0))), (q9, .inr (1, [.ref q5, .ref q7, .ref (u10.getD 0 0)])), ((u10.getD 0 0), .inl ((kA X), 8, .inl (fun _ => 0))), (q11, .inr (3, [.ref q5, .ref q7])), (q13, .inr (5, [.ref q5, .ref (u14.getD 0 0), .ref (u14.getD 1 0), .ref (u14.getD 2 0), .ref (u14.getD 3 0), .ref (u14.getD 4 0), .ref (u14.getD 5 0), .int 0, .int 0])), ((u14.getD 0 0), .inl ((kA X), 5, .inl (fun _ => 0))), ((u14.getD 1 0), .inl ((kA X), 5, .inl (fun _ => 0))), ((u14.getD 2 0), .inl ((kA X), 5, .inl (fun _ => 0))), ((u14.getD 3 0), .inl ((kA X), 8, .inl (fun _ => 0))), ((u14.getD 4 0), .inl ((kA X), 5, .inl (fun _ => 0))), ((u14.getD 5 0), .inl ((kA X), 5, .inl (fun _ => 0))), (q15, .inr (7, [.ref (u16.getD 0 0)])), ((u16.getD 0 0), .inl ((kA X), 30, .inl (fC (-1) 30)))]) (d := d) hX (k_X2_init (by omega)) lq_RX9_73 mq_X2_init iq_X2_init rfl oq_X2_init (Nat.le_of_ble_eq_true rfl) [29] [0, 1, 2, 3, 4, 5, 6, 7, 8, 9, 10, 11, 12, 13, 14, 15, 16, 17, 18, 19, 20, 21, 22, 23, 24, 25, 26, 27, 28] rfl rfl rfl rfl (by decide) rfl rfl (Nat.le_of_ble_eq_true rfl) (Nat.le_of_ble_eq_true rfl) (Nat.le_of_ble_eq_true rfl) dX9_init_129 (fun u18 => ?_)
  show kV X 32 704 132 [some (.ref h0)] [.ref q17, .ref h0] [(h0, .inr (9, [.ref q1, .ref q3, .ref q5, .ref q7, .ref q9, .ref q11, .ref q13, .ref q15, .null])), (q1, .inr (6, [.ref (u2.getD 0 0), .int 0])), ((u2.getD 0 0), .inl ((kA X), 200, .inl (fun _ => 0))), (q3, .inr (4, [.ref q1, .ref (u4.getD 0 0), .int 0, .int 0, .int 0])), ((u4.getD 0 0), .inl ((kA X), 88, .inl (fun _ => 0))), (q5, .inr (0, [.int 0, .ref (u6.getD 0 0), .ref (u6.getD 1 0), .ref (u6.getD 2 0), .ref (u6.getD 3 0), .ref (u6.getD 4 0), .int 0, .int 0, .ref (u6.getD 5 0), .int 2, .int 20])), ((u6.getD 0 0), .inl ((kA X), 72, .inl (fun _ => 0))), ((u6.getD 1 0), .inl ((kA X), 56, .inl (fun _ => 0))), ((u6.getD 2 0), .inl ((kA X), 14, .inl (fun _ => 0))), ((u6.getD 3 0), .inl ((kA X), 14, .inl (fC 2000 14))), ((u6.getD 4 0), .inl ((kA X), 14, .inl (fun _ => 0))), ((u6.getD 5 0), .inl ((kA X), 52, .inl (fun _ => 0))), (q7, .inr (8, [.ref q5, .ref (u8.getD 0 0), .ref (u8.getD 1 0), .ref (u8.getD 2 0), .ref (u8.getD 3 0)])), ((u8.getD 0 0), .inl ((kA X), 14, .inl (fun _ => 0))), ((u8.getD 1 0), .inl ((kA X), 14, .inl (fun _ => 0))), ((u8.getD 2 0), .inl ((kA X), 14, .inl (fun _ => 0))), ((u8.getD 3 0), .inl ((kA X), 14, .inl (fun _ => 0))), (q9, .inr (1, [.ref q5, .ref q7, .ref (u10.getD 0 0)])), ((u10.getD 0 0), .inl ((kA X), 8, .inl (fun _ => 0))), (q11, .inr (3, [.ref q5, .ref q7])), (q13, .inr (5, [.ref q5, .ref (u14.getD 0 0), .ref (u14.getD 1 0), .ref (u14.getD 2 0), .ref (u14.getD 3 0), .ref (u14.getD 4 0), .ref (u14.getD 5 0), .int 0, .int 0])), ((u14.getD 0 0), .inl ((kA X), 5, .inl (fun _ => 0))), ((u14.getD 1 0), .inl ((kA X), 5, .inl (fun _ => 0))), ((u14.getD 2 0), .inl ((kA X), 5, .inl (fun _ => 0))), ((u14.getD 3 0), .inl ((kA X), 8, .inl (fun _ => 0))), ((u14.getD 4 0), .inl ((kA X), 5, .inl (fun _ => 0))), ((u14.getD 5 0), .inl ((kA X), 5, .inl (fun _ => 0))), (q15, .inr (7, [.ref (u16.getD 0 0)])), ((u16.getD 0 0), .inl ((kA X), 30, .inl (fC (-1) 30))), (q17, .inr (2, [.ref q5, .ref (u18.getD 0 0), .ref (u18.getD 1 0), .ref (u18.getD 2 0), .int 0])), ((u18.getD 0 0), .inl ((kA X), 8, .inl (fun _ => 0))), ((u18.getD 1 0), .inl ((kA X), 8, .inl (fun _ => 0))), ((u18.getD 2 0), .inl ((kA X), 8, .inl (fun _ => 0)))]
  refine K_putF (q0 := 0) (ty := (.object "BentFurrows$Pictures")) hX hI kf_RX9_74 cl_9 kp_9_8 rfl (Nat.le_of_ble_eq_true rfl) rfl rfl dX9_init_132 ?_
  show kV X 32 704 135 [some (.ref h0)] [] [(h0, .inr (9, [.ref q1, .ref q3, .ref q5, .ref q7, .ref q9, .ref q11, .ref q13, .ref q15, .ref q17])), (q1, .inr (6, [.ref (u2.getD 0 0), .int 0])), ((u2.getD 0 0), .inl ((kA X), 200, .inl (fun _ => 0))), (q3, .inr (4, [.ref q1, .ref (u4.getD 0 0), .int 0, .int 0, .int 0])), ((u4.getD 0 0), .inl ((kA X), 88, .inl (fun _ => 0))), (q5, .inr (0, [.int 0, .ref (u6.getD 0 0), .ref (u6.getD 1 0), .ref (u6.getD 2 0), .ref (u6.getD 3 0), .ref (u6.getD 4 0), .int 0, .int 0, .ref (u6.getD 5 0), .int 2, .int 20])), ((u6.getD 0 0), .inl ((kA X), 72, .inl (fun _ => 0))), ((u6.getD 1 0), .inl ((kA X), 56, .inl (fun _ => 0))), ((u6.getD 2 0), .inl ((kA X), 14, .inl (fun _ => 0))), ((u6.getD 3 0), .inl ((kA X), 14, .inl (fC 2000 14))), ((u6.getD 4 0), .inl ((kA X), 14, .inl (fun _ => 0))), ((u6.getD 5 0), .inl ((kA X), 52, .inl (fun _ => 0))), (q7, .inr (8, [.ref q5, .ref (u8.getD 0 0), .ref (u8.getD 1 0), .ref (u8.getD 2 0), .ref (u8.getD 3 0)])), ((u8.getD 0 0), .inl ((kA X), 14, .inl (fun _ => 0))), ((u8.getD 1 0), .inl ((kA X), 14, .inl (fun _ => 0))), ((u8.getD 2 0), .inl ((kA X), 14, .inl (fun _ => 0))), ((u8.getD 3 0), .inl ((kA X), 14, .inl (fun _ => 0))), (q9, .inr (1, [.ref q5, .ref q7, .ref (u10.getD 0 0)])), ((u10.getD 0 0), .inl ((kA X), 8, .inl (fun _ => 0))), (q11, .inr (3, [.ref q5, .ref q7])), (q13, .inr (5, [.ref q5, .ref (u14.getD 0 0), .ref (u14.getD 1 0), .ref (u14.getD 2 0), .ref (u14.getD 3 0), .ref (u14.getD 4 0), .ref (u14.getD 5 0), .int 0, .int 0])), ((u14.getD 0 0), .inl ((kA X), 5, .inl (fun _ => 0))), ((u14.getD 1 0), .inl ((kA X), 5, .inl (fun _ => 0))), ((u14.getD 2 0), .inl ((kA X), 5, .inl (fun _ => 0))), ((u14.getD 3 0), .inl ((kA X), 8, .inl (fun _ => 0))), ((u14.getD 4 0), .inl ((kA X), 5, .inl (fun _ => 0))), ((u14.getD 5 0), .inl ((kA X), 5, .inl (fun _ => 0))), (q15, .inr (7, [.ref (u16.getD 0 0)])), ((u16.getD 0 0), .inl ((kA X), 30, .inl (fC (-1) 30))), (q17, .inr (2, [.ref q5, .ref (u18.getD 0 0), .ref (u18.getD 1 0), .ref (u18.getD 2 0), .int 0])), ((u18.getD 0 0), .inl ((kA X), 8, .inl (fun _ => 0))), ((u18.getD 1 0), .inl ((kA X), 8, .inl (fun _ => 0))), ((u18.getD 2 0), .inl ((kA X), 8, .inl (fun _ => 0)))]
  exact K_vret hX hE [q1, (u2.getD 0 0), q3, (u4.getD 0 0), q5, (u6.getD 0 0), (u6.getD 1 0), (u6.getD 2 0), (u6.getD 3 0), (u6.getD 4 0), (u6.getD 5 0), q7, (u8.getD 0 0), (u8.getD 1 0), (u8.getD 2 0), (u8.getD 3 0), q9, (u10.getD 0 0), q11, q13, (u14.getD 0 0), (u14.getD 1 0), (u14.getD 2 0), (u14.getD 3 0), (u14.getD 4 0), (u14.getD 5 0), q15, (u16.getD 0 0), q17, (u18.getD 0 0), (u18.getD 1 0), (u18.getD 2 0)] rfl dX9_init_135
def wd_X10_init (cA : ClassId) (h0 : Nat) (u : List Nat) : va_W := [(h0, .inr (10, [.int 0, .ref (u.getD 0 0), .ref (u.getD 1 0), .ref (u.getD 2 0), .ref (u.getD 3 0), .ref (u.getD 4 0), .ref (u.getD 5 0), .ref (u.getD 6 0), .int 0, .ref (u.getD 7 0), .ref (u.getD 8 0), .int 0, .ref (u.getD 9 0), .int 2, .int 20, .int 0, .ref (u.getD 10 0), .int 0, .int 0, .long 0, .int 0, .int 0, .int 0, .int 0, .ref (u.getD 11 0), .ref (u.getD 12 0), .ref (u.getD 13 0), .ref (u.getD 14 0), .ref (u.getD 15 0), .ref (u.getD 16 0), .ref (u.getD 17 0), .ref (u.getD 18 0), .int 0, .int 0, .ref (u.getD 19 0), .int 0, .ref (u.getD 20 0), .ref (u.getD 21 0), .ref (u.getD 22 0)])), ((u.getD 0 0), .inl (cA, 56, .inl (fun _ => 0))), ((u.getD 1 0), .inl (cA, 14, .inl (fun _ => 0))), ((u.getD 2 0), .inl (cA, 14, .inl (fun _ => 0))), ((u.getD 3 0), .inl (cA, 14, .inl (fun _ => 0))), ((u.getD 4 0), .inl (cA, 14, .inl (fun _ => 0))), ((u.getD 5 0), .inl (cA, 14, .inl (fun _ => 0))), ((u.getD 6 0), .inl (cA, 14, .inl (fC 2000 14))), ((u.getD 7 0), .inl (cA, 14, .inl (fun _ => 0))), ((u.getD 8 0), .inl (cA, 14, .inl (fun _ => 0))), ((u.getD 9 0), .inl (cA, 52, .inl (fun _ => 0))), ((u.getD 10 0), .inl (cA, 200, .inl (fun _ => 0))), ((u.getD 11 0), .inl (cA, 88, .inl (fun _ => 0))), ((u.getD 12 0), .inl (cA, 14, .inl (fun _ => 0))), ((u.getD 13 0), .inl (cA, 14, .inl (fun _ => 0))), ((u.getD 14 0), .inl (cA, 14, .inl (fun _ => 0))), ((u.getD 15 0), .inl (cA, 5, .inl (fun _ => 0))), ((u.getD 16 0), .inl (cA, 5, .inl (fun _ => 0))), ((u.getD 17 0), .inl (cA, 6, .inl (fun _ => 0))), ((u.getD 18 0), .inl (cA, 5, .inl (fun _ => 0))), ((u.getD 19 0), .inl (cA, 30, .inl (fC (-1) 30))), ((u.getD 20 0), .inl (cA, 8, .inl (fun _ => 0))), ((u.getD 21 0), .inl (cA, 8, .inl (fun _ => 0))), ((u.getD 22 0), .inl (cA, 8, .inl (fun _ => 0)))]
set_option maxRecDepth 100000 in
set_option maxHeartbeats 4000000 in
theorem kl_X10_init_a {d mc ms kc ks h0 q1 q2 q3 q4 q5 q6 q7 q8 q9 q10 q11 q12 q13 q14 q15 q16 q17 q18 q19 q20 q21 q22 q23 : Nat} {X : bX} (hX : kOk cX10_init 2 RX10 (d + 1) mc ms X)
    (hend : kV X kc ks 220 [some (.ref h0), some (.int (nI 14))] [] [(h0, .inr (10, [.int 0, .ref q1, .ref q2, .ref q3, .ref q4, .ref q5, .ref q6, .ref q7, .int 0, .ref q8, .ref q9, .int 0, .ref q10, .int 2, .int 20, .int 0, .ref q11, .int 0, .int 0, .long 0, .int 0, .int 0, .int 0, .int 0, .ref q12, .ref q13, .ref q14, .ref q15, .ref q16, .ref q17, .ref q18, .ref q19, .int 0, .int 0, .ref q20, .int 0, .ref q21, .ref q22, .ref q23])), (q1, .inl ((kA X), 56, .inl (fun _ => 0))), (q2, .inl ((kA X), 14, .inl (fun _ => 0))), (q3, .inl ((kA X), 14, .inl (fun _ => 0))), (q4, .inl ((kA X), 14, .inl (fun _ => 0))), (q5, .inl ((kA X), 14, .inl (fun _ => 0))), (q6, .inl ((kA X), 14, .inl (fun _ => 0))), (q7, .inl ((kA X), 14, .inl (fC 2000 14))), (q8, .inl ((kA X), 14, .inl (fun _ => 0))), (q9, .inl ((kA X), 14, .inl (fun _ => 0))), (q10, .inl ((kA X), 52, .inl (fun _ => 0))), (q11, .inl ((kA X), 200, .inl (fun _ => 0))), (q12, .inl ((kA X), 88, .inl (fun _ => 0))), (q13, .inl ((kA X), 14, .inl (fun _ => 0))), (q14, .inl ((kA X), 14, .inl (fun _ => 0))), (q15, .inl ((kA X), 14, .inl (fun _ => 0))), (q16, .inl ((kA X), 5, .inl (fun _ => 0))), (q17, .inl ((kA X), 5, .inl (fun _ => 0))), (q18, .inl ((kA X), 6, .inl (fun _ => 0))), (q19, .inl ((kA X), 5, .inl (fun _ => 0))), (q20, .inl ((kA X), 30, .inl (fun _ => 0))), (q21, .inl ((kA X), 8, .inl (fun _ => 0))), (q22, .inl ((kA X), 8, .inl (fun _ => 0))), (q23, .inl ((kA X), 8, .inl (fun _ => 0)))]) : ∀ (n i : Nat), i + n = 14 → kV X kc ks 199 [some (.ref h0), some (.int (nI i))] [] [(h0, .inr (10, [.int 0, .ref q1, .ref q2, .ref q3, .ref q4, .ref q5, .ref q6, .ref q7, .int 0, .ref q8, .ref q9, .int 0, .ref q10, .int 2, .int 20, .int 0, .ref q11, .int 0, .int 0, .long 0, .int 0, .int 0, .int 0, .int 0, .ref q12, .ref q13, .ref q14, .ref q15, .ref q16, .ref q17, .ref q18, .ref q19, .int 0, .int 0, .ref q20, .int 0, .ref q21, .ref q22, .ref q23])), (q1, .inl ((kA X), 56, .inl (fun _ => 0))), (q2, .inl ((kA X), 14, .inl (fun _ => 0))), (q3, .inl ((kA X), 14, .inl (fun _ => 0))), (q4, .inl ((kA X), 14, .inl (fun _ => 0))), (q5, .inl ((kA X), 14, .inl (fun _ => 0))), (q6, .inl ((kA X), 14, .inl (fun _ => 0))), (q7, .inl ((kA X), 14, .inl (fC 2000 i))), (q8, .inl ((kA X), 14, .inl (fun _ => 0))), (q9, .inl ((kA X), 14, .inl (fun _ => 0))), (q10, .inl ((kA X), 52, .inl (fun _ => 0))), (q11, .inl ((kA X), 200, .inl (fun _ => 0))), (q12, .inl ((kA X), 88, .inl (fun _ => 0))), (q13, .inl ((kA X), 14, .inl (fun _ => 0))), (q14, .inl ((kA X), 14, .inl (fun _ => 0))), (q15, .inl ((kA X), 14, .inl (fun _ => 0))), (q16, .inl ((kA X), 5, .inl (fun _ => 0))), (q17, .inl ((kA X), 5, .inl (fun _ => 0))), (q18, .inl ((kA X), 6, .inl (fun _ => 0))), (q19, .inl ((kA X), 5, .inl (fun _ => 0))), (q20, .inl ((kA X), 30, .inl (fun _ => 0))), (q21, .inl ((kA X), 8, .inl (fun _ => 0))), (q22, .inl ((kA X), 8, .inl (fun _ => 0))), (q23, .inl ((kA X), 8, .inl (fun _ => 0)))]
  | 0, i, hi => by
    have hi : i = 14 := by omega
    subst hi
    refine K_iload_n hX dX10_init_199 rfl rfl ?_
    refine K_bipush (v := 14) hX dX10_init_200 (by decide) ?_
    refine K_icmp_ge (tgt := 220) hX dX10_init_202 (by decide) (fun _ => hend) (fun h => absurd (by decide) h)
  | n + 1, i, hi => by
    refine K_iload_n hX dX10_init_199 rfl rfl ?_
    refine K_bipush (v := 14) hX dX10_init_200 (by decide) ?_
    refine K_icmp_ge (tgt := 220) hX dX10_init_202 (by decide) (fun h => absurd h (nI_ge (a := i) (b := 14) (by omega) (by decide))) (fun _ => ?_)
    refine K_aload_n hX dX10_init_205 rfl rfl ?_
    refine K_getf (q0 := 0) hX kf_RX10_28 cl_10 rfl rfl dX10_init_206 ?_
    refine K_iload_n hX dX10_init_209 rfl rfl ?_
    refine K_sipush (v := 2000) hX dX10_init_210 (by decide) ?_
    refine K_iast (q0 := 7) hX rfl (vp_in_nI (by omega) (by decide)) dX10_init_213 ?_
    refine K_iinc hX dX10_init_214 rfl (nI_1 i) (Nat.le_of_ble_eq_true rfl) rfl ?_
    refine K_goto (tgt := 199) hX dX10_init_217 (by decide) ?_
    have e := kl_X10_init_a hX hend n (i + 1) (by omega)
    rw [← fC_upd (i := i) (by omega)] at e
    exact e
set_option maxRecDepth 100000 in
set_option maxHeartbeats 4000000 in
theorem kl_X10_init_b {d mc ms kc ks h0 q1 q2 q3 q4 q5 q6 q7 q8 q9 q10 q11 q12 q13 q14 q15 q16 q17 q18 q19 q20 q21 q22 q23 : Nat} {X : bX} (hX : kOk cX10_init 2 RX10 (d + 1) mc ms X)
    (hend : kV X kc ks 241 [some (.ref h0), some (.int (nI 30))] [] [(h0, .inr (10, [.int 0, .ref q1, .ref q2, .ref q3, .ref q4, .ref q5, .ref q6, .ref q7, .int 0, .ref q8, .ref q9, .int 0, .ref q10, .int 2, .int 20, .int 0, .ref q11, .int 0, .int 0, .long 0, .int 0, .int 0, .int 0, .int 0, .ref q12, .ref q13, .ref q14, .ref q15, .ref q16, .ref q17, .ref q18, .ref q19, .int 0, .int 0, .ref q20, .int 0, .ref q21, .ref q22, .ref q23])), (q1, .inl ((kA X), 56, .inl (fun _ => 0))), (q2, .inl ((kA X), 14, .inl (fun _ => 0))), (q3, .inl ((kA X), 14, .inl (fun _ => 0))), (q4, .inl ((kA X), 14, .inl (fun _ => 0))), (q5, .inl ((kA X), 14, .inl (fun _ => 0))), (q6, .inl ((kA X), 14, .inl (fun _ => 0))), (q7, .inl ((kA X), 14, .inl (fC 2000 14))), (q8, .inl ((kA X), 14, .inl (fun _ => 0))), (q9, .inl ((kA X), 14, .inl (fun _ => 0))), (q10, .inl ((kA X), 52, .inl (fun _ => 0))), (q11, .inl ((kA X), 200, .inl (fun _ => 0))), (q12, .inl ((kA X), 88, .inl (fun _ => 0))), (q13, .inl ((kA X), 14, .inl (fun _ => 0))), (q14, .inl ((kA X), 14, .inl (fun _ => 0))), (q15, .inl ((kA X), 14, .inl (fun _ => 0))), (q16, .inl ((kA X), 5, .inl (fun _ => 0))), (q17, .inl ((kA X), 5, .inl (fun _ => 0))), (q18, .inl ((kA X), 6, .inl (fun _ => 0))), (q19, .inl ((kA X), 5, .inl (fun _ => 0))), (q20, .inl ((kA X), 30, .inl (fC (-1) 30))), (q21, .inl ((kA X), 8, .inl (fun _ => 0))), (q22, .inl ((kA X), 8, .inl (fun _ => 0))), (q23, .inl ((kA X), 8, .inl (fun _ => 0)))]) : ∀ (n i : Nat), i + n = 30 → kV X kc ks 222 [some (.ref h0), some (.int (nI i))] [] [(h0, .inr (10, [.int 0, .ref q1, .ref q2, .ref q3, .ref q4, .ref q5, .ref q6, .ref q7, .int 0, .ref q8, .ref q9, .int 0, .ref q10, .int 2, .int 20, .int 0, .ref q11, .int 0, .int 0, .long 0, .int 0, .int 0, .int 0, .int 0, .ref q12, .ref q13, .ref q14, .ref q15, .ref q16, .ref q17, .ref q18, .ref q19, .int 0, .int 0, .ref q20, .int 0, .ref q21, .ref q22, .ref q23])), (q1, .inl ((kA X), 56, .inl (fun _ => 0))), (q2, .inl ((kA X), 14, .inl (fun _ => 0))), (q3, .inl ((kA X), 14, .inl (fun _ => 0))), (q4, .inl ((kA X), 14, .inl (fun _ => 0))), (q5, .inl ((kA X), 14, .inl (fun _ => 0))), (q6, .inl ((kA X), 14, .inl (fun _ => 0))), (q7, .inl ((kA X), 14, .inl (fC 2000 14))), (q8, .inl ((kA X), 14, .inl (fun _ => 0))), (q9, .inl ((kA X), 14, .inl (fun _ => 0))), (q10, .inl ((kA X), 52, .inl (fun _ => 0))), (q11, .inl ((kA X), 200, .inl (fun _ => 0))), (q12, .inl ((kA X), 88, .inl (fun _ => 0))), (q13, .inl ((kA X), 14, .inl (fun _ => 0))), (q14, .inl ((kA X), 14, .inl (fun _ => 0))), (q15, .inl ((kA X), 14, .inl (fun _ => 0))), (q16, .inl ((kA X), 5, .inl (fun _ => 0))), (q17, .inl ((kA X), 5, .inl (fun _ => 0))), (q18, .inl ((kA X), 6, .inl (fun _ => 0))), (q19, .inl ((kA X), 5, .inl (fun _ => 0))), (q20, .inl ((kA X), 30, .inl (fC (-1) i))), (q21, .inl ((kA X), 8, .inl (fun _ => 0))), (q22, .inl ((kA X), 8, .inl (fun _ => 0))), (q23, .inl ((kA X), 8, .inl (fun _ => 0)))]
  | 0, i, hi => by
    have hi : i = 30 := by omega
    subst hi
    refine K_iload_n hX dX10_init_222 rfl rfl ?_
    refine K_bipush (v := 30) hX dX10_init_223 (by decide) ?_
    refine K_icmp_ge (tgt := 241) hX dX10_init_225 (by decide) (fun _ => hend) (fun h => absurd (by decide) h)
  | n + 1, i, hi => by
    refine K_iload_n hX dX10_init_222 rfl rfl ?_
    refine K_bipush (v := 30) hX dX10_init_223 (by decide) ?_
    refine K_icmp_ge (tgt := 241) hX dX10_init_225 (by decide) (fun h => absurd h (nI_ge (a := i) (b := 30) (by omega) (by decide))) (fun _ => ?_)
    refine K_aload_n hX dX10_init_228 rfl rfl ?_
    refine K_getf (q0 := 0) hX kf_RX10_74 cl_10 rfl rfl dX10_init_229 ?_
    refine K_iload_n hX dX10_init_232 rfl rfl ?_
    refine K_iconst (v := (-1)) hX dX10_init_233 (by decide) ?_
    refine K_iast (q0 := 20) hX rfl (vp_in_nI (by omega) (by decide)) dX10_init_234 ?_
    refine K_iinc hX dX10_init_235 rfl (nI_1 i) (Nat.le_of_ble_eq_true rfl) rfl ?_
    refine K_goto (tgt := 222) hX dX10_init_238 (by decide) ?_
    have e := kl_X10_init_b hX hend n (i + 1) (by omega)
    rw [← fC_upd (i := i) (by omega)] at e
    exact e
set_option maxRecDepth 100000 in
set_option maxHeartbeats 4000000 in
theorem k_X10_init {d : Nat} (hd9 : 1 ≤ d) {cA : ClassId} {h0 : Nat} : kCon d yX10_init cX10_init 2 23 625 cA [.ref h0] [(h0, .inr (10, [.int 0, .null, .null, .null, .null, .null, .null, .null, .int 0, .null, .null, .int 0, .null, .int 0, .int 0, .int 0, .null, .int 0, .int 0, .long 0, .int 0, .int 0, .int 0, .int 0, .null, .null, .null, .null, .null, .null, .null, .null, .int 0, .int 0, .null, .int 0, .null, .null, .null]))] (wd_X10_init cA h0) := by
  refine kCon_of (by decide) (Nat.le_of_ble_eq_true rfl) (by intro v hv; simp at hv; rcases hv with rfl; rfl) (fun X hX hE hc hI => ?_)
  subst hc
  have hI := hI rfl
  have hX : kOk cX10_init 2 RX10 d 23 625 X := hX
  obtain ⟨d, rfl⟩ : ∃ e, d = e + 1 := ⟨d - 1, by omega⟩
  show kV X 0 0 0 [some (.ref h0), none] [] [(h0, .inr (10, [.int 0, .null, .null, .null, .null, .null, .null, .null, .int 0, .null, .null, .int 0, .null, .int 0, .int 0, .int 0, .null, .int 0, .int 0, .long 0, .int 0, .int 0, .int 0, .int 0, .null, .null, .null, .null, .null, .null, .null, .null, .int 0, .int 0, .null, .int 0, .null, .null, .null]))]
  refine K_aload_n hX dX10_init_0 rfl rfl ?_
  refine K_obj hX ko_RX10 (by omega) (Nat.le_of_ble_eq_true rfl) dX10_init_1 ?_
  refine K_aload_n hX dX10_init_4 rfl rfl ?_
  refine K_bipush (v := 56) hX dX10_init_5 (by decide) ?_
  refine K_newa (n := 56) hX k_arr (by decide) (by decide) (Nat.le_of_ble_eq_true rfl) (Nat.le_of_ble_eq_true rfl) dX10_init_7 (fun q1 => ?_)
  refine K_putF (q0 := 0) (ty := (.array .int)) hX hI kf_RX10_7 cl_10 kp_10_1 rfl (Nat.le_of_ble_eq_true rfl) rfl rfl dX10_init_9 ?_
  show kV X 1 56 12 [some (.ref h0), none] [] [(h0, .inr (10, [.int 0, .ref q1, .null, .null, .null, .null, .null, .null, .int 0, .null, .null, .int 0, .null, .int 0, .int 0, .int 0, .null, .int 0, .int 0, .long 0, .int 0, .int 0, .int 0, .int 0, .null, .null, .null, .null, .null, .null, .null, .null, .int 0, .int 0, .null, .int 0, .null, .null, .null])), (q1, .inl ((kA X), 56, .inl (fun _ => 0)))]
  refine K_aload_n hX dX10_init_12 rfl rfl ?_
  refine K_bipush (v := 14) hX dX10_init_13 (by decide) ?_
  refine K_newa (n := 14) hX k_arr (by decide) (by decide) (Nat.le_of_ble_eq_true rfl) (Nat.le_of_ble_eq_true rfl) dX10_init_15 (fun q2 => ?_)
  refine K_putF (q0 := 0) (ty := (.array .int)) hX hI kf_RX10_13 cl_10 kp_10_2 rfl (Nat.le_of_ble_eq_true rfl) rfl rfl dX10_init_17 ?_
  show kV X 2 70 20 [some (.ref h0), none] [] [(h0, .inr (10, [.int 0, .ref q1, .ref q2, .null, .null, .null, .null, .null, .int 0, .null, .null, .int 0, .null, .int 0, .int 0, .int 0, .null, .int 0, .int 0, .long 0, .int 0, .int 0, .int 0, .int 0, .null, .null, .null, .null, .null, .null, .null, .null, .int 0, .int 0, .null, .int 0, .null, .null, .null])), (q1, .inl ((kA X), 56, .inl (fun _ => 0))), (q2, .inl ((kA X), 14, .inl (fun _ => 0)))]
  refine K_aload_n hX dX10_init_20 rfl rfl ?_
  refine K_bipush (v := 14) hX dX10_init_21 (by decide) ?_
  refine K_newa (n := 14) hX k_arr (by decide) (by decide) (Nat.le_of_ble_eq_true rfl) (Nat.le_of_ble_eq_true rfl) dX10_init_23 (fun q3 => ?_)
  refine K_putF (q0 := 0) (ty := (.array .int)) hX hI kf_RX10_16 cl_10 kp_10_3 rfl (Nat.le_of_ble_eq_true rfl) rfl rfl dX10_init_25 ?_
  show kV X 3 84 28 [some (.ref h0), none] [] [(h0, .inr (10, [.int 0, .ref q1, .ref q2, .ref q3, .null, .null, .null, .null, .int 0, .null, .null, .int 0, .null, .int 0, .int 0, .int 0, .null, .int 0, .int 0, .long 0, .int 0, .int 0, .int 0, .int 0, .null, .null, .null, .null, .null, .null, .null, .null, .int 0, .int 0, .null, .int 0, .null, .null, .null])), (q1, .inl ((kA X), 56, .inl (fun _ => 0))), (q2, .inl ((kA X), 14, .inl (fun _ => 0))), (q3, .inl ((kA X), 14, .inl (fun _ => 0)))]
  refine K_aload_n hX dX10_init_28 rfl rfl ?_
  refine K_bipush (v := 14) hX dX10_init_29 (by decide) ?_
  refine K_newa (n := 14) hX k_arr (by decide) (by decide) (Nat.le_of_ble_eq_true rfl) (Nat.le_of_ble_eq_true rfl) dX10_init_31 (fun q4 => ?_)
  refine K_putF (q0 := 0) (ty := (.array .int)) hX hI kf_RX10_19 cl_10 kp_10_4 rfl (Nat.le_of_ble_eq_true rfl) rfl rfl dX10_init_33 ?_
  show kV X 4 98 36 [some (.ref h0), none] [] [(h0, .inr (10, [.int 0, .ref q1, .ref q2, .ref q3, .ref q4, .null, .null, .null, .int 0, .null, .null, .int 0, .null, .int 0, .int 0, .int 0, .null, .int 0, .int 0, .long 0, .int 0, .int 0, .int 0, .int 0, .null, .null, .null, .null, .null, .null, .null, .null, .int 0, .int 0, .null, .int 0, .null, .null, .null])), (q1, .inl ((kA X), 56, .inl (fun _ => 0))), (q2, .inl ((kA X), 14, .inl (fun _ => 0))), (q3, .inl ((kA X), 14, .inl (fun _ => 0))), (q4, .inl ((kA X), 14, .inl (fun _ => 0)))]
  refine K_aload_n hX dX10_init_36 rfl rfl ?_
  refine K_bipush (v := 14) hX dX10_init_37 (by decide) ?_
  refine K_newa (n := 14) hX k_arr (by decide) (by decide) (Nat.le_of_ble_eq_true rfl) (Nat.le_of_ble_eq_true rfl) dX10_init_39 (fun q5 => ?_)
  refine K_putF (q0 := 0) (ty := (.array .int)) hX hI kf_RX10_22 cl_10 kp_10_5 rfl (Nat.le_of_ble_eq_true rfl) rfl rfl dX10_init_41 ?_
  show kV X 5 112 44 [some (.ref h0), none] [] [(h0, .inr (10, [.int 0, .ref q1, .ref q2, .ref q3, .ref q4, .ref q5, .null, .null, .int 0, .null, .null, .int 0, .null, .int 0, .int 0, .int 0, .null, .int 0, .int 0, .long 0, .int 0, .int 0, .int 0, .int 0, .null, .null, .null, .null, .null, .null, .null, .null, .int 0, .int 0, .null, .int 0, .null, .null, .null])), (q1, .inl ((kA X), 56, .inl (fun _ => 0))), (q2, .inl ((kA X), 14, .inl (fun _ => 0))), (q3, .inl ((kA X), 14, .inl (fun _ => 0))), (q4, .inl ((kA X), 14, .inl (fun _ => 0))), (q5, .inl ((kA X), 14, .inl (fun _ => 0)))]
  refine K_aload_n hX dX10_init_44 rfl rfl ?_
  refine K_bipush (v := 14) hX dX10_init_45 (by decide) ?_
  refine K_newa (n := 14) hX k_arr (by decide) (by decide) (Nat.le_of_ble_eq_true rfl) (Nat.le_of_ble_eq_true rfl) dX10_init_47 (fun q6 => ?_)
  refine K_putF (q0 := 0) (ty := (.array .int)) hX hI kf_RX10_25 cl_10 kp_10_6 rfl (Nat.le_of_ble_eq_true rfl) rfl rfl dX10_init_49 ?_
  show kV X 6 126 52 [some (.ref h0), none] [] [(h0, .inr (10, [.int 0, .ref q1, .ref q2, .ref q3, .ref q4, .ref q5, .ref q6, .null, .int 0, .null, .null, .int 0, .null, .int 0, .int 0, .int 0, .null, .int 0, .int 0, .long 0, .int 0, .int 0, .int 0, .int 0, .null, .null, .null, .null, .null, .null, .null, .null, .int 0, .int 0, .null, .int 0, .null, .null, .null])), (q1, .inl ((kA X), 56, .inl (fun _ => 0))), (q2, .inl ((kA X), 14, .inl (fun _ => 0))), (q3, .inl ((kA X), 14, .inl (fun _ => 0))), (q4, .inl ((kA X), 14, .inl (fun _ => 0))), (q5, .inl ((kA X), 14, .inl (fun _ => 0))), (q6, .inl ((kA X), 14, .inl (fun _ => 0)))]
  refine K_aload_n hX dX10_init_52 rfl rfl ?_
  refine K_bipush (v := 14) hX dX10_init_53 (by decide) ?_
  refine K_newa (n := 14) hX k_arr (by decide) (by decide) (Nat.le_of_ble_eq_true rfl) (Nat.le_of_ble_eq_true rfl) dX10_init_55 (fun q7 => ?_)
  refine K_putF (q0 := 0) (ty := (.array .int)) hX hI kf_RX10_28 cl_10 kp_10_7 rfl (Nat.le_of_ble_eq_true rfl) rfl rfl dX10_init_57 ?_
  show kV X 7 140 60 [some (.ref h0), none] [] [(h0, .inr (10, [.int 0, .ref q1, .ref q2, .ref q3, .ref q4, .ref q5, .ref q6, .ref q7, .int 0, .null, .null, .int 0, .null, .int 0, .int 0, .int 0, .null, .int 0, .int 0, .long 0, .int 0, .int 0, .int 0, .int 0, .null, .null, .null, .null, .null, .null, .null, .null, .int 0, .int 0, .null, .int 0, .null, .null, .null])), (q1, .inl ((kA X), 56, .inl (fun _ => 0))), (q2, .inl ((kA X), 14, .inl (fun _ => 0))), (q3, .inl ((kA X), 14, .inl (fun _ => 0))), (q4, .inl ((kA X), 14, .inl (fun _ => 0))), (q5, .inl ((kA X), 14, .inl (fun _ => 0))), (q6, .inl ((kA X), 14, .inl (fun _ => 0))), (q7, .inl ((kA X), 14, .inl (fun _ => 0)))]
  refine K_aload_n hX dX10_init_60 rfl rfl ?_
  refine K_bipush (v := 14) hX dX10_init_61 (by decide) ?_
  refine K_newa (n := 14) hX k_arr (by decide) (by decide) (Nat.le_of_ble_eq_true rfl) (Nat.le_of_ble_eq_true rfl) dX10_init_63 (fun q8 => ?_)
  refine K_putF (q0 := 0) (ty := (.array .int)) hX hI kf_RX10_31 cl_10 kp_10_9 rfl (Nat.le_of_ble_eq_true rfl) rfl rfl dX10_init_65 ?_
  show kV X 8 154 68 [some (.ref h0), none] [] [(h0, .inr (10, [.int 0, .ref q1, .ref q2, .ref q3, .ref q4, .ref q5, .ref q6, .ref q7, .int 0, .ref q8, .null, .int 0, .null, .int 0, .int 0, .int 0, .null, .int 0, .int 0, .long 0, .int 0, .int 0, .int 0, .int 0, .null, .null, .null, .null, .null, .null, .null, .null, .int 0, .int 0, .null, .int 0, .null, .null, .null])), (q1, .inl ((kA X), 56, .inl (fun _ => 0))), (q2, .inl ((kA X), 14, .inl (fun _ => 0))), (q3, .inl ((kA X), 14, .inl (fun _ => 0))), (q4, .inl ((kA X), 14, .inl (fun _ => 0))), (q5, .inl ((kA X), 14, .inl (fun _ => 0))), (q6, .inl ((kA X), 14, .inl (fun _ => 0))), (q7, .inl ((kA X), 14, .inl (fun _ => 0))), (q8, .inl ((kA X), 14, .inl (fun _ => 0)))]
  refine K_aload_n hX dX10_init_68 rfl rfl ?_
  refine K_bipush (v := 14) hX dX10_init_69 (by decide) ?_
  refine K_newa (n := 14) hX k_arr (by decide) (by decide) (Nat.le_of_ble_eq_true rfl) (Nat.le_of_ble_eq_true rfl) dX10_init_71 (fun q9 => ?_)
  refine K_putF (q0 := 0) (ty := (.array .int)) hX hI kf_RX10_34 cl_10 kp_10_10 rfl (Nat.le_of_ble_eq_true rfl) rfl rfl dX10_init_73 ?_
  show kV X 9 168 76 [some (.ref h0), none] [] [(h0, .inr (10, [.int 0, .ref q1, .ref q2, .ref q3, .ref q4, .ref q5, .ref q6, .ref q7, .int 0, .ref q8, .ref q9, .int 0, .null, .int 0, .int 0, .int 0, .null, .int 0, .int 0, .long 0, .int 0, .int 0, .int 0, .int 0, .null, .null, .null, .null, .null, .null, .null, .null, .int 0, .int 0, .null, .int 0, .null, .null, .null])), (q1, .inl ((kA X), 56, .inl (fun _ => 0))), (q2, .inl ((kA X), 14, .inl (fun _ => 0))), (q3, .inl ((kA X), 14, .inl (fun _ => 0))), (q4, .inl ((kA X), 14, .inl (fun _ => 0))), (q5, .inl ((kA X), 14, .inl (fun _ => 0))), (q6, .inl ((kA X), 14, .inl (fun _ => 0))), (q7, .inl ((kA X), 14, .inl (fun _ => 0))), (q8, .inl ((kA X), 14, .inl (fun _ => 0))), (q9, .inl ((kA X), 14, .inl (fun _ => 0)))]
  refine K_aload_n hX dX10_init_76 rfl rfl ?_
  refine K_bipush (v := 52) hX dX10_init_77 (by decide) ?_
  refine K_newa (n := 52) hX k_arr (by decide) (by decide) (Nat.le_of_ble_eq_true rfl) (Nat.le_of_ble_eq_true rfl) dX10_init_79 (fun q10 => ?_)
  refine K_putF (q0 := 0) (ty := (.array .int)) hX hI kf_RX10_37 cl_10 kp_10_12 rfl (Nat.le_of_ble_eq_true rfl) rfl rfl dX10_init_81 ?_
  show kV X 10 220 84 [some (.ref h0), none] [] [(h0, .inr (10, [.int 0, .ref q1, .ref q2, .ref q3, .ref q4, .ref q5, .ref q6, .ref q7, .int 0, .ref q8, .ref q9, .int 0, .ref q10, .int 0, .int 0, .int 0, .null, .int 0, .int 0, .long 0, .int 0, .int 0, .int 0, .int 0, .null, .null, .null, .null, .null, .null, .null, .null, .int 0, .int 0, .null, .int 0, .null, .null, .null])), (q1, .inl ((kA X), 56, .inl (fun _ => 0))), (q2, .inl ((kA X), 14, .inl (fun _ => 0))), (q3, .inl ((kA X), 14, .inl (fun _ => 0))), (q4, .inl ((kA X), 14, .inl (fun _ => 0))), (q5, .inl ((kA X), 14, .inl (fun _ => 0))), (q6, .inl ((kA X), 14, .inl (fun _ => 0))), (q7, .inl ((kA X), 14, .inl (fun _ => 0))), (q8, .inl ((kA X), 14, .inl (fun _ => 0))), (q9, .inl ((kA X), 14, .inl (fun _ => 0))), (q10, .inl ((kA X), 52, .inl (fun _ => 0)))]
  refine K_aload_n hX dX10_init_84 rfl rfl ?_
  refine K_iconst (v := 2) hX dX10_init_85 (by decide) ?_
  refine K_putI (q0 := 0) hX kf_RX10_40 cl_10 kp_10_13 rfl (Nat.le_of_ble_eq_true rfl) dX10_init_86 ?_
  show kV X 10 220 89 [some (.ref h0), none] [] [(h0, .inr (10, [.int 0, .ref q1, .ref q2, .ref q3, .ref q4, .ref q5, .ref q6, .ref q7, .int 0, .ref q8, .ref q9, .int 0, .ref q10, .int 2, .int 0, .int 0, .null, .int 0, .int 0, .long 0, .int 0, .int 0, .int 0, .int 0, .null, .null, .null, .null, .null, .null, .null, .null, .int 0, .int 0, .null, .int 0, .null, .null, .null])), (q1, .inl ((kA X), 56, .inl (fun _ => 0))), (q2, .inl ((kA X), 14, .inl (fun _ => 0))), (q3, .inl ((kA X), 14, .inl (fun _ => 0))), (q4, .inl ((kA X), 14, .inl (fun _ => 0))), (q5, .inl ((kA X), 14, .inl (fun _ => 0))), (q6, .inl ((kA X), 14, .inl (fun _ => 0))), (q7, .inl ((kA X), 14, .inl (fun _ => 0))), (q8, .inl ((kA X), 14, .inl (fun _ => 0))), (q9, .inl ((kA X), 14, .inl (fun _ => 0))), (q10, .inl ((kA X), 52, .inl (fun _ => 0)))]
  refine K_aload_n hX dX10_init_89 rfl rfl ?_
  refine K_bipush (v := 20) hX dX10_init_90 (by decide) ?_
  refine K_putI (q0 := 0) hX kf_RX10_44 cl_10 kp_10_14 rfl (Nat.le_of_ble_eq_true rfl) dX10_init_92 ?_
  show kV X 10 220 95 [some (.ref h0), none] [] [(h0, .inr (10, [.int 0, .ref q1, .ref q2, .ref q3, .ref q4, .ref q5, .ref q6, .ref q7, .int 0, .ref q8, .ref q9, .int 0, .ref q10, .int 2, .int 20, .int 0, .null, .int 0, .int 0, .long 0, .int 0, .int 0, .int 0, .int 0, .null, .null, .null, .null, .null, .null, .null, .null, .int 0, .int 0, .null, .int 0, .null, .null, .null])), (q1, .inl ((kA X), 56, .inl (fun _ => 0))), (q2, .inl ((kA X), 14, .inl (fun _ => 0))), (q3, .inl ((kA X), 14, .inl (fun _ => 0))), (q4, .inl ((kA X), 14, .inl (fun _ => 0))), (q5, .inl ((kA X), 14, .inl (fun _ => 0))), (q6, .inl ((kA X), 14, .inl (fun _ => 0))), (q7, .inl ((kA X), 14, .inl (fun _ => 0))), (q8, .inl ((kA X), 14, .inl (fun _ => 0))), (q9, .inl ((kA X), 14, .inl (fun _ => 0))), (q10, .inl ((kA X), 52, .inl (fun _ => 0)))]
  refine K_aload_n hX dX10_init_95 rfl rfl ?_
  refine K_sipush (v := 200) hX dX10_init_96 (by decide) ?_
  refine K_newa (n := 200) hX k_arr (by decide) (by decide) (Nat.le_of_ble_eq_true rfl) (Nat.le_of_ble_eq_true rfl) dX10_init_99 (fun q11 => ?_)
  refine K_putF (q0 := 0) (ty := (.array .int)) hX hI kf_RX10_47 cl_10 kp_10_16 rfl (Nat.le_of_ble_eq_true rfl) rfl rfl dX10_init_101 ?_
  show kV X 11 420 104 [some (.ref h0), none] [] [(h0, .inr (10, [.int 0, .ref q1, .ref q2, .ref q3, .ref q4, .ref q5, .ref q6, .ref q7, .int 0, .ref q8, .ref q9, .int 0, .ref q10, .int 2, .int 20, .int 0, .ref q11, .int 0, .int 0, .long 0, .int 0, .int 0, .int 0, .int 0, .null, .null, .null, .null, .null, .null, .null, .null, .int 0, .int 0, .null, .int 0, .null, .null, .null])), (q1, .inl ((kA X), 56, .inl (fun _ => 0))), (q2, .inl ((kA X), 14, .inl (fun _ => 0))), (q3, .inl ((kA X), 14, .inl (fun _ => 0))), (q4, .inl ((kA X), 14, .inl (fun _ => 0))), (q5, .inl ((kA X), 14, .inl (fun _ => 0))), (q6, .inl ((kA X), 14, .inl (fun _ => 0))), (q7, .inl ((kA X), 14, .inl (fun _ => 0))), (q8, .inl ((kA X), 14, .inl (fun _ => 0))), (q9, .inl ((kA X), 14, .inl (fun _ => 0))), (q10, .inl ((kA X), 52, .inl (fun _ => 0))), (q11, .inl ((kA X), 200, .inl (fun _ => 0)))]
  refine K_aload_n hX dX10_init_104 rfl rfl ?_
  refine K_bipush (v := 88) hX dX10_init_105 (by decide) ?_
  refine K_newa (n := 88) hX k_arr (by decide) (by decide) (Nat.le_of_ble_eq_true rfl) (Nat.le_of_ble_eq_true rfl) dX10_init_107 (fun q12 => ?_)
  refine K_putF (q0 := 0) (ty := (.array .int)) hX hI kf_RX10_50 cl_10 kp_10_24 rfl (Nat.le_of_ble_eq_true rfl) rfl rfl dX10_init_109 ?_
  show kV X 12 508 112 [some (.ref h0), none] [] [(h0, .inr (10, [.int 0, .ref q1, .ref q2, .ref q3, .ref q4, .ref q5, .ref q6, .ref q7, .int 0, .ref q8, .ref q9, .int 0, .ref q10, .int 2, .int 20, .int 0, .ref q11, .int 0, .int 0, .long 0, .int 0, .int 0, .int 0, .int 0, .ref q12, .null, .null, .null, .null, .null, .null, .null, .int 0, .int 0, .null, .int 0, .null, .null, .null])), (q1, .inl ((kA X), 56, .inl (fun _ => 0))), (q2, .inl ((kA X), 14, .inl (fun _ => 0))), (q3, .inl ((kA X), 14, .inl (fun _ => 0))), (q4, .inl ((kA X), 14, .inl (fun _ => 0))), (q5, .inl ((kA X), 14, .inl (fun _ => 0))), (q6, .inl ((kA X), 14, .inl (fun _ => 0))), (q7, .inl ((kA X), 14, .inl (fun _ => 0))), (q8, .inl ((kA X), 14, .inl (fun _ => 0))), (q9, .inl ((kA X), 14, .inl (fun _ => 0))), (q10, .inl ((kA X), 52, .inl (fun _ => 0))), (q11, .inl ((kA X), 200, .inl (fun _ => 0))), (q12, .inl ((kA X), 88, .inl (fun _ => 0)))]
  refine K_aload_n hX dX10_init_112 rfl rfl ?_
  refine K_bipush (v := 14) hX dX10_init_113 (by decide) ?_
  refine K_newa (n := 14) hX k_arr (by decide) (by decide) (Nat.le_of_ble_eq_true rfl) (Nat.le_of_ble_eq_true rfl) dX10_init_115 (fun q13 => ?_)
  refine K_putF (q0 := 0) (ty := (.array .int)) hX hI kf_RX10_53 cl_10 kp_10_25 rfl (Nat.le_of_ble_eq_true rfl) rfl rfl dX10_init_117 ?_
  show kV X 13 522 120 [some (.ref h0), none] [] [(h0, .inr (10, [.int 0, .ref q1, .ref q2, .ref q3, .ref q4, .ref q5, .ref q6, .ref q7, .int 0, .ref q8, .ref q9, .int 0, .ref q10, .int 2, .int 20, .int 0, .ref q11, .int 0, .int 0, .long 0, .int 0, .int 0, .int 0, .int 0, .ref q12, .ref q13, .null, .null, .null, .null, .null, .null, .int 0, .int 0, .null, .int 0, .null, .null, .null])), (q1, .inl ((kA X), 56, .inl (fun _ => 0))), (q2, .inl ((kA X), 14, .inl (fun _ => 0))), (q3, .inl ((kA X), 14, .inl (fun _ => 0))), (q4, .inl ((kA X), 14, .inl (fun _ => 0))), (q5, .inl ((kA X), 14, .inl (fun _ => 0))), (q6, .inl ((kA X), 14, .inl (fun _ => 0))), (q7, .inl ((kA X), 14, .inl (fun _ => 0))), (q8, .inl ((kA X), 14, .inl (fun _ => 0))), (q9, .inl ((kA X), 14, .inl (fun _ => 0))), (q10, .inl ((kA X), 52, .inl (fun _ => 0))), (q11, .inl ((kA X), 200, .inl (fun _ => 0))), (q12, .inl ((kA X), 88, .inl (fun _ => 0))), (q13, .inl ((kA X), 14, .inl (fun _ => 0)))]
  refine K_aload_n hX dX10_init_120 rfl rfl ?_
  refine K_bipush (v := 14) hX dX10_init_121 (by decide) ?_
  refine K_newa (n := 14) hX k_arr (by decide) (by decide) (Nat.le_of_ble_eq_true rfl) (Nat.le_of_ble_eq_true rfl) dX10_init_123 (fun q14 => ?_)
  refine K_putF (q0 := 0) (ty := (.array .int)) hX hI kf_RX10_56 cl_10 kp_10_26 rfl (Nat.le_of_ble_eq_true rfl) rfl rfl dX10_init_125 ?_
  show kV X 14 536 128 [some (.ref h0), none] [] [(h0, .inr (10, [.int 0, .ref q1, .ref q2, .ref q3, .ref q4, .ref q5, .ref q6, .ref q7, .int 0, .ref q8, .ref q9, .int 0, .ref q10, .int 2, .int 20, .int 0, .ref q11, .int 0, .int 0, .long 0, .int 0, .int 0, .int 0, .int 0, .ref q12, .ref q13, .ref q14, .null, .null, .null, .null, .null, .int 0, .int 0, .null, .int 0, .null, .null, .null])), (q1, .inl ((kA X), 56, .inl (fun _ => 0))), (q2, .inl ((kA X), 14, .inl (fun _ => 0))), (q3, .inl ((kA X), 14, .inl (fun _ => 0))), (q4, .inl ((kA X), 14, .inl (fun _ => 0))), (q5, .inl ((kA X), 14, .inl (fun _ => 0))), (q6, .inl ((kA X), 14, .inl (fun _ => 0))), (q7, .inl ((kA X), 14, .inl (fun _ => 0))), (q8, .inl ((kA X), 14, .inl (fun _ => 0))), (q9, .inl ((kA X), 14, .inl (fun _ => 0))), (q10, .inl ((kA X), 52, .inl (fun _ => 0))), (q11, .inl ((kA X), 200, .inl (fun _ => 0))), (q12, .inl ((kA X), 88, .inl (fun _ => 0))), (q13, .inl ((kA X), 14, .inl (fun _ => 0))), (q14, .inl ((kA X), 14, .inl (fun _ => 0)))]
  refine K_aload_n hX dX10_init_128 rfl rfl ?_
  refine K_bipush (v := 14) hX dX10_init_129 (by decide) ?_
  refine K_newa (n := 14) hX k_arr (by decide) (by decide) (Nat.le_of_ble_eq_true rfl) (Nat.le_of_ble_eq_true rfl) dX10_init_131 (fun q15 => ?_)
  refine K_putF (q0 := 0) (ty := (.array .int)) hX hI kf_RX10_59 cl_10 kp_10_27 rfl (Nat.le_of_ble_eq_true rfl) rfl rfl dX10_init_133 ?_
  show kV X 15 550 136 [some (.ref h0), none] [] [(h0, .inr (10, [.int 0, .ref q1, .ref q2, .ref q3, .ref q4, .ref q5, .ref q6, .ref q7, .int 0, .ref q8, .ref q9, .int 0, .ref q10, .int 2, .int 20, .int 0, .ref q11, .int 0, .int 0, .long 0, .int 0, .int 0, .int 0, .int 0, .ref q12, .ref q13, .ref q14, .ref q15, .null, .null, .null, .null, .int 0, .int 0, .null, .int 0, .null, .null, .null])), (q1, .inl ((kA X), 56, .inl (fun _ => 0))), (q2, .inl ((kA X), 14, .inl (fun _ => 0))), (q3, .inl ((kA X), 14, .inl (fun _ => 0))), (q4, .inl ((kA X), 14, .inl (fun _ => 0))), (q5, .inl ((kA X), 14, .inl (fun _ => 0))), (q6, .inl ((kA X), 14, .inl (fun _ => 0))), (q7, .inl ((kA X), 14, .inl (fun _ => 0))), (q8, .inl ((kA X), 14, .inl (fun _ => 0))), (q9, .inl ((kA X), 14, .inl (fun _ => 0))), (q10, .inl ((kA X), 52, .inl (fun _ => 0))), (q11, .inl ((kA X), 200, .inl (fun _ => 0))), (q12, .inl ((kA X), 88, .inl (fun _ => 0))), (q13, .inl ((kA X), 14, .inl (fun _ => 0))), (q14, .inl ((kA X), 14, .inl (fun _ => 0))), (q15, .inl ((kA X), 14, .inl (fun _ => 0)))]
  refine K_aload_n hX dX10_init_136 rfl rfl ?_
  refine K_iconst (v := 5) hX dX10_init_137 (by decide) ?_
  refine K_newa (n := 5) hX k_arr (by decide) (by decide) (Nat.le_of_ble_eq_true rfl) (Nat.le_of_ble_eq_true rfl) dX10_init_138 (fun q16 => ?_)
  refine K_putF (q0 := 0) (ty := (.array .int)) hX hI kf_RX10_62 cl_10 kp_10_28 rfl (Nat.le_of_ble_eq_true rfl) rfl rfl dX10_init_140 ?_
  show kV X 16 555 143 [some (.ref h0), none] [] [(h0, .inr (10, [.int 0, .ref q1, .ref q2, .ref q3, .ref q4, .ref q5, .ref q6, .ref q7, .int 0, .ref q8, .ref q9, .int 0, .ref q10, .int 2, .int 20, .int 0, .ref q11, .int 0, .int 0, .long 0, .int 0, .int 0, .int 0, .int 0, .ref q12, .ref q13, .ref q14, .ref q15, .ref q16, .null, .null, .null, .int 0, .int 0, .null, .int 0, .null, .null, .null])), (q1, .inl ((kA X), 56, .inl (fun _ => 0))), (q2, .inl ((kA X), 14, .inl (fun _ => 0))), (q3, .inl ((kA X), 14, .inl (fun _ => 0))), (q4, .inl ((kA X), 14, .inl (fun _ => 0))), (q5, .inl ((kA X), 14, .inl (fun _ => 0))), (q6, .inl ((kA X), 14, .inl (fun _ => 0))), (q7, .inl ((kA X), 14, .inl (fun _ => 0))), (q8, .inl ((kA X), 14, .inl (fun _ => 0))), (q9, .inl ((kA X), 14, .inl (fun _ => 0))), (q10, .inl ((kA X), 52, .inl (fun _ => 0))), (q11, .inl ((kA X), 200, .inl (fun _ => 0))), (q12, .inl ((kA X), 88, .inl (fun _ => 0))), (q13, .inl ((kA X), 14, .inl (fun _ => 0))), (q14, .inl ((kA X), 14, .inl (fun _ => 0))), (q15, .inl ((kA X), 14, .inl (fun _ => 0))), (q16, .inl ((kA X), 5, .inl (fun _ => 0)))]
  refine K_aload_n hX dX10_init_143 rfl rfl ?_
  refine K_iconst (v := 5) hX dX10_init_144 (by decide) ?_
  refine K_newa (n := 5) hX k_arr (by decide) (by decide) (Nat.le_of_ble_eq_true rfl) (Nat.le_of_ble_eq_true rfl) dX10_init_145 (fun q17 => ?_)
  refine K_putF (q0 := 0) (ty := (.array .int)) hX hI kf_RX10_65 cl_10 kp_10_29 rfl (Nat.le_of_ble_eq_true rfl) rfl rfl dX10_init_147 ?_
  show kV X 17 560 150 [some (.ref h0), none] [] [(h0, .inr (10, [.int 0, .ref q1, .ref q2, .ref q3, .ref q4, .ref q5, .ref q6, .ref q7, .int 0, .ref q8, .ref q9, .int 0, .ref q10, .int 2, .int 20, .int 0, .ref q11, .int 0, .int 0, .long 0, .int 0, .int 0, .int 0, .int 0, .ref q12, .ref q13, .ref q14, .ref q15, .ref q16, .ref q17, .null, .null, .int 0, .int 0, .null, .int 0, .null, .null, .null])), (q1, .inl ((kA X), 56, .inl (fun _ => 0))), (q2, .inl ((kA X), 14, .inl (fun _ => 0))), (q3, .inl ((kA X), 14, .inl (fun _ => 0))), (q4, .inl ((kA X), 14, .inl (fun _ => 0))), (q5, .inl ((kA X), 14, .inl (fun _ => 0))), (q6, .inl ((kA X), 14, .inl (fun _ => 0))), (q7, .inl ((kA X), 14, .inl (fun _ => 0))), (q8, .inl ((kA X), 14, .inl (fun _ => 0))), (q9, .inl ((kA X), 14, .inl (fun _ => 0))), (q10, .inl ((kA X), 52, .inl (fun _ => 0))), (q11, .inl ((kA X), 200, .inl (fun _ => 0))), (q12, .inl ((kA X), 88, .inl (fun _ => 0))), (q13, .inl ((kA X), 14, .inl (fun _ => 0))), (q14, .inl ((kA X), 14, .inl (fun _ => 0))), (q15, .inl ((kA X), 14, .inl (fun _ => 0))), (q16, .inl ((kA X), 5, .inl (fun _ => 0))), (q17, .inl ((kA X), 5, .inl (fun _ => 0)))]
  refine K_aload_n hX dX10_init_150 rfl rfl ?_
  refine K_bipush (v := 6) hX dX10_init_151 (by decide) ?_
  refine K_newa (n := 6) hX k_arr (by decide) (by decide) (Nat.le_of_ble_eq_true rfl) (Nat.le_of_ble_eq_true rfl) dX10_init_153 (fun q18 => ?_)
  refine K_putF (q0 := 0) (ty := (.array .int)) hX hI kf_RX10_68 cl_10 kp_10_30 rfl (Nat.le_of_ble_eq_true rfl) rfl rfl dX10_init_155 ?_
  show kV X 18 566 158 [some (.ref h0), none] [] [(h0, .inr (10, [.int 0, .ref q1, .ref q2, .ref q3, .ref q4, .ref q5, .ref q6, .ref q7, .int 0, .ref q8, .ref q9, .int 0, .ref q10, .int 2, .int 20, .int 0, .ref q11, .int 0, .int 0, .long 0, .int 0, .int 0, .int 0, .int 0, .ref q12, .ref q13, .ref q14, .ref q15, .ref q16, .ref q17, .ref q18, .null, .int 0, .int 0, .null, .int 0, .null, .null, .null])), (q1, .inl ((kA X), 56, .inl (fun _ => 0))), (q2, .inl ((kA X), 14, .inl (fun _ => 0))), (q3, .inl ((kA X), 14, .inl (fun _ => 0))), (q4, .inl ((kA X), 14, .inl (fun _ => 0))), (q5, .inl ((kA X), 14, .inl (fun _ => 0))), (q6, .inl ((kA X), 14, .inl (fun _ => 0))), (q7, .inl ((kA X), 14, .inl (fun _ => 0))), (q8, .inl ((kA X), 14, .inl (fun _ => 0))), (q9, .inl ((kA X), 14, .inl (fun _ => 0))), (q10, .inl ((kA X), 52, .inl (fun _ => 0))), (q11, .inl ((kA X), 200, .inl (fun _ => 0))), (q12, .inl ((kA X), 88, .inl (fun _ => 0))), (q13, .inl ((kA X), 14, .inl (fun _ => 0))), (q14, .inl ((kA X), 14, .inl (fun _ => 0))), (q15, .inl ((kA X), 14, .inl (fun _ => 0))), (q16, .inl ((kA X), 5, .inl (fun _ => 0))), (q17, .inl ((kA X), 5, .inl (fun _ => 0))), (q18, .inl ((kA X), 6, .inl (fun _ => 0)))]
  refine K_aload_n hX dX10_init_158 rfl rfl ?_
  refine K_iconst (v := 5) hX dX10_init_159 (by decide) ?_
  refine K_newa (n := 5) hX k_arr (by decide) (by decide) (Nat.le_of_ble_eq_true rfl) (Nat.le_of_ble_eq_true rfl) dX10_init_160 (fun q19 => ?_)
  refine K_putF (q0 := 0) (ty := (.array .int)) hX hI kf_RX10_71 cl_10 kp_10_31 rfl (Nat.le_of_ble_eq_true rfl) rfl rfl dX10_init_162 ?_
  show kV X 19 571 165 [some (.ref h0), none] [] [(h0, .inr (10, [.int 0, .ref q1, .ref q2, .ref q3, .ref q4, .ref q5, .ref q6, .ref q7, .int 0, .ref q8, .ref q9, .int 0, .ref q10, .int 2, .int 20, .int 0, .ref q11, .int 0, .int 0, .long 0, .int 0, .int 0, .int 0, .int 0, .ref q12, .ref q13, .ref q14, .ref q15, .ref q16, .ref q17, .ref q18, .ref q19, .int 0, .int 0, .null, .int 0, .null, .null, .null])), (q1, .inl ((kA X), 56, .inl (fun _ => 0))), (q2, .inl ((kA X), 14, .inl (fun _ => 0))), (q3, .inl ((kA X), 14, .inl (fun _ => 0))), (q4, .inl ((kA X), 14, .inl (fun _ => 0))), (q5, .inl ((kA X), 14, .inl (fun _ => 0))), (q6, .inl ((kA X), 14, .inl (fun _ => 0))), (q7, .inl ((kA X), 14, .inl (fun _ => 0))), (q8, .inl ((kA X), 14, .inl (fun _ => 0))), (q9, .inl ((kA X), 14, .inl (fun _ => 0))), (q10, .inl ((kA X), 52, .inl (fun _ => 0))), (q11, .inl ((kA X), 200, .inl (fun _ => 0))), (q12, .inl ((kA X), 88, .inl (fun _ => 0))), (q13, .inl ((kA X), 14, .inl (fun _ => 0))), (q14, .inl ((kA X), 14, .inl (fun _ => 0))), (q15, .inl ((kA X), 14, .inl (fun _ => 0))), (q16, .inl ((kA X), 5, .inl (fun _ => 0))), (q17, .inl ((kA X), 5, .inl (fun _ => 0))), (q18, .inl ((kA X), 6, .inl (fun _ => 0))), (q19, .inl ((kA X), 5, .inl (fun _ => 0)))]
  refine K_aload_n hX dX10_init_165 rfl rfl ?_
  refine K_bipush (v := 30) hX dX10_init_166 (by decide) ?_
  refine K_newa (n := 30) hX k_arr (by decide) (by decide) (Nat.le_of_ble_eq_true rfl) (Nat.le_of_ble_eq_true rfl) dX10_init_168 (fun q20 => ?_)
  refine K_putF (q0 := 0) (ty := (.array .int)) hX hI kf_RX10_74 cl_10 kp_10_34 rfl (Nat.le_of_ble_eq_true rfl) rfl rfl dX10_init_170 ?_
  show kV X 20 601 173 [some (.ref h0), none] [] [(h0, .inr (10, [.int 0, .ref q1, .ref q2, .ref q3, .ref q4, .ref q5, .ref q6, .ref q7, .int 0, .ref q8, .ref q9, .int 0, .ref q10, .int 2, .int 20, .int 0, .ref q11, .int 0, .int 0, .long 0, .int 0, .int 0, .int 0, .int 0, .ref q12, .ref q13, .ref q14, .ref q15, .ref q16, .ref q17, .ref q18, .ref q19, .int 0, .int 0, .ref q20, .int 0, .null, .null, .null])), (q1, .inl ((kA X), 56, .inl (fun _ => 0))), (q2, .inl ((kA X), 14, .inl (fun _ => 0))), (q3, .inl ((kA X), 14, .inl (fun _ => 0))), (q4, .inl ((kA X), 14, .inl (fun _ => 0))), (q5, .inl ((kA X), 14, .inl (fun _ => 0))), (q6, .inl ((kA X), 14, .inl (fun _ => 0))), (q7, .inl ((kA X), 14, .inl (fun _ => 0))), (q8, .inl ((kA X), 14, .inl (fun _ => 0))), (q9, .inl ((kA X), 14, .inl (fun _ => 0))), (q10, .inl ((kA X), 52, .inl (fun _ => 0))), (q11, .inl ((kA X), 200, .inl (fun _ => 0))), (q12, .inl ((kA X), 88, .inl (fun _ => 0))), (q13, .inl ((kA X), 14, .inl (fun _ => 0))), (q14, .inl ((kA X), 14, .inl (fun _ => 0))), (q15, .inl ((kA X), 14, .inl (fun _ => 0))), (q16, .inl ((kA X), 5, .inl (fun _ => 0))), (q17, .inl ((kA X), 5, .inl (fun _ => 0))), (q18, .inl ((kA X), 6, .inl (fun _ => 0))), (q19, .inl ((kA X), 5, .inl (fun _ => 0))), (q20, .inl ((kA X), 30, .inl (fun _ => 0)))]
  refine K_aload_n hX dX10_init_173 rfl rfl ?_
  refine K_bipush (v := 8) hX dX10_init_174 (by decide) ?_
  refine K_newa (n := 8) hX k_arr (by decide) (by decide) (Nat.le_of_ble_eq_true rfl) (Nat.le_of_ble_eq_true rfl) dX10_init_176 (fun q21 => ?_)
  refine K_putF (q0 := 0) (ty := (.array .int)) hX hI kf_RX10_77 cl_10 kp_10_36 rfl (Nat.le_of_ble_eq_true rfl) rfl rfl dX10_init_178 ?_
  show kV X 21 609 181 [some (.ref h0), none] [] [(h0, .inr (10, [.int 0, .ref q1, .ref q2, .ref q3, .ref q4, .ref q5, .ref q6, .ref q7, .int 0, .ref q8, .ref q9, .int 0, .ref q10, .int 2, .int 20, .int 0, .ref q11, .int 0, .int 0, .long 0, .int 0, .int 0, .int 0, .int 0, .ref q12, .ref q13, .ref q14, .ref q15, .ref q16, .ref q17, .ref q18, .ref q19, .int 0, .int 0, .ref q20, .int 0, .ref q21, .null, .null])), (q1, .inl ((kA X), 56, .inl (fun _ => 0))), (q2, .inl ((kA X), 14, .inl (fun _ => 0))), (q3, .inl ((kA X), 14, .inl (fun _ => 0))), (q4, .inl ((kA X), 14, .inl (fun _ => 0))), (q5, .inl ((kA X), 14, .inl (fun _ => 0))), (q6, .inl ((kA X), 14, .inl (fun _ => 0))), (q7, .inl ((kA X), 14, .inl (fun _ => 0))), (q8, .inl ((kA X), 14, .inl (fun _ => 0))), (q9, .inl ((kA X), 14, .inl (fun _ => 0))), (q10, .inl ((kA X), 52, .inl (fun _ => 0))), (q11, .inl ((kA X), 200, .inl (fun _ => 0))), (q12, .inl ((kA X), 88, .inl (fun _ => 0))), (q13, .inl ((kA X), 14, .inl (fun _ => 0))), (q14, .inl ((kA X), 14, .inl (fun _ => 0))), (q15, .inl ((kA X), 14, .inl (fun _ => 0))), (q16, .inl ((kA X), 5, .inl (fun _ => 0))), (q17, .inl ((kA X), 5, .inl (fun _ => 0))), (q18, .inl ((kA X), 6, .inl (fun _ => 0))), (q19, .inl ((kA X), 5, .inl (fun _ => 0))), (q20, .inl ((kA X), 30, .inl (fun _ => 0))), (q21, .inl ((kA X), 8, .inl (fun _ => 0)))]
  refine K_aload_n hX dX10_init_181 rfl rfl ?_
  refine K_bipush (v := 8) hX dX10_init_182 (by decide) ?_
  refine K_newa (n := 8) hX k_arr (by decide) (by decide) (Nat.le_of_ble_eq_true rfl) (Nat.le_of_ble_eq_true rfl) dX10_init_184 (fun q22 => ?_)
  refine K_putF (q0 := 0) (ty := (.array .int)) hX hI kf_RX10_80 cl_10 kp_10_37 rfl (Nat.le_of_ble_eq_true rfl) rfl rfl dX10_init_186 ?_
  show kV X 22 617 189 [some (.ref h0), none] [] [(h0, .inr (10, [.int 0, .ref q1, .ref q2, .ref q3, .ref q4, .ref q5, .ref q6, .ref q7, .int 0, .ref q8, .ref q9, .int 0, .ref q10, .int 2, .int 20, .int 0, .ref q11, .int 0, .int 0, .long 0, .int 0, .int 0, .int 0, .int 0, .ref q12, .ref q13, .ref q14, .ref q15, .ref q16, .ref q17, .ref q18, .ref q19, .int 0, .int 0, .ref q20, .int 0, .ref q21, .ref q22, .null])), (q1, .inl ((kA X), 56, .inl (fun _ => 0))), (q2, .inl ((kA X), 14, .inl (fun _ => 0))), (q3, .inl ((kA X), 14, .inl (fun _ => 0))), (q4, .inl ((kA X), 14, .inl (fun _ => 0))), (q5, .inl ((kA X), 14, .inl (fun _ => 0))), (q6, .inl ((kA X), 14, .inl (fun _ => 0))), (q7, .inl ((kA X), 14, .inl (fun _ => 0))), (q8, .inl ((kA X), 14, .inl (fun _ => 0))), (q9, .inl ((kA X), 14, .inl (fun _ => 0))), (q10, .inl ((kA X), 52, .inl (fun _ => 0))), (q11, .inl ((kA X), 200, .inl (fun _ => 0))), (q12, .inl ((kA X), 88, .inl (fun _ => 0))), (q13, .inl ((kA X), 14, .inl (fun _ => 0))), (q14, .inl ((kA X), 14, .inl (fun _ => 0))), (q15, .inl ((kA X), 14, .inl (fun _ => 0))), (q16, .inl ((kA X), 5, .inl (fun _ => 0))), (q17, .inl ((kA X), 5, .inl (fun _ => 0))), (q18, .inl ((kA X), 6, .inl (fun _ => 0))), (q19, .inl ((kA X), 5, .inl (fun _ => 0))), (q20, .inl ((kA X), 30, .inl (fun _ => 0))), (q21, .inl ((kA X), 8, .inl (fun _ => 0))), (q22, .inl ((kA X), 8, .inl (fun _ => 0)))]
  refine K_aload_n hX dX10_init_189 rfl rfl ?_
  refine K_bipush (v := 8) hX dX10_init_190 (by decide) ?_
  refine K_newa (n := 8) hX k_arr (by decide) (by decide) (Nat.le_of_ble_eq_true rfl) (Nat.le_of_ble_eq_true rfl) dX10_init_192 (fun q23 => ?_)
  refine K_putF (q0 := 0) (ty := (.array .int)) hX hI kf_RX10_83 cl_10 kp_10_38 rfl (Nat.le_of_ble_eq_true rfl) rfl rfl dX10_init_194 ?_
  show kV X 23 625 197 [some (.ref h0), none] [] [(h0, .inr (10, [.int 0, .ref q1, .ref q2, .ref q3, .ref q4, .ref q5, .ref q6, .ref q7, .int 0, .ref q8, .ref q9, .int 0, .ref q10, .int 2, .int 20, .int 0, .ref q11, .int 0, .int 0, .long 0, .int 0, .int 0, .int 0, .int 0, .ref q12, .ref q13, .ref q14, .ref q15, .ref q16, .ref q17, .ref q18, .ref q19, .int 0, .int 0, .ref q20, .int 0, .ref q21, .ref q22, .ref q23])), (q1, .inl ((kA X), 56, .inl (fun _ => 0))), (q2, .inl ((kA X), 14, .inl (fun _ => 0))), (q3, .inl ((kA X), 14, .inl (fun _ => 0))), (q4, .inl ((kA X), 14, .inl (fun _ => 0))), (q5, .inl ((kA X), 14, .inl (fun _ => 0))), (q6, .inl ((kA X), 14, .inl (fun _ => 0))), (q7, .inl ((kA X), 14, .inl (fun _ => 0))), (q8, .inl ((kA X), 14, .inl (fun _ => 0))), (q9, .inl ((kA X), 14, .inl (fun _ => 0))), (q10, .inl ((kA X), 52, .inl (fun _ => 0))), (q11, .inl ((kA X), 200, .inl (fun _ => 0))), (q12, .inl ((kA X), 88, .inl (fun _ => 0))), (q13, .inl ((kA X), 14, .inl (fun _ => 0))), (q14, .inl ((kA X), 14, .inl (fun _ => 0))), (q15, .inl ((kA X), 14, .inl (fun _ => 0))), (q16, .inl ((kA X), 5, .inl (fun _ => 0))), (q17, .inl ((kA X), 5, .inl (fun _ => 0))), (q18, .inl ((kA X), 6, .inl (fun _ => 0))), (q19, .inl ((kA X), 5, .inl (fun _ => 0))), (q20, .inl ((kA X), 30, .inl (fun _ => 0))), (q21, .inl ((kA X), 8, .inl (fun _ => 0))), (q22, .inl ((kA X), 8, .inl (fun _ => 0))), (q23, .inl ((kA X), 8, .inl (fun _ => 0)))]
  refine K_iconst (v := 0) hX dX10_init_197 (by decide) ?_
  refine K_istore_n hX dX10_init_198 rfl (Nat.le_of_ble_eq_true rfl) rfl ?_
  have e0 := fC_0 2000
  have key : kV X 23 625 199 [some (.ref h0), some (.int (nI 0))] [] [(h0, .inr (10, [.int 0, .ref q1, .ref q2, .ref q3, .ref q4, .ref q5, .ref q6, .ref q7, .int 0, .ref q8, .ref q9, .int 0, .ref q10, .int 2, .int 20, .int 0, .ref q11, .int 0, .int 0, .long 0, .int 0, .int 0, .int 0, .int 0, .ref q12, .ref q13, .ref q14, .ref q15, .ref q16, .ref q17, .ref q18, .ref q19, .int 0, .int 0, .ref q20, .int 0, .ref q21, .ref q22, .ref q23])), (q1, .inl ((kA X), 56, .inl (fun _ => 0))), (q2, .inl ((kA X), 14, .inl (fun _ => 0))), (q3, .inl ((kA X), 14, .inl (fun _ => 0))), (q4, .inl ((kA X), 14, .inl (fun _ => 0))), (q5, .inl ((kA X), 14, .inl (fun _ => 0))), (q6, .inl ((kA X), 14, .inl (fun _ => 0))), (q7, .inl ((kA X), 14, .inl (fC 2000 0))), (q8, .inl ((kA X), 14, .inl (fun _ => 0))), (q9, .inl ((kA X), 14, .inl (fun _ => 0))), (q10, .inl ((kA X), 52, .inl (fun _ => 0))), (q11, .inl ((kA X), 200, .inl (fun _ => 0))), (q12, .inl ((kA X), 88, .inl (fun _ => 0))), (q13, .inl ((kA X), 14, .inl (fun _ => 0))), (q14, .inl ((kA X), 14, .inl (fun _ => 0))), (q15, .inl ((kA X), 14, .inl (fun _ => 0))), (q16, .inl ((kA X), 5, .inl (fun _ => 0))), (q17, .inl ((kA X), 5, .inl (fun _ => 0))), (q18, .inl ((kA X), 6, .inl (fun _ => 0))), (q19, .inl ((kA X), 5, .inl (fun _ => 0))), (q20, .inl ((kA X), 30, .inl (fun _ => 0))), (q21, .inl ((kA X), 8, .inl (fun _ => 0))), (q22, .inl ((kA X), 8, .inl (fun _ => 0))), (q23, .inl ((kA X), 8, .inl (fun _ => 0)))] := ?_
  · rw [e0] at key; exact key
  refine kl_X10_init_a hX ?_ 14 0 rfl
  refine K_iconst (v := 0) hX dX10_init_220 (by decide) ?_
  refine K_istore_n hX dX10_init_221 rfl (Nat.le_of_ble_eq_true rfl) rfl ?_
  have e0 := fC_0 (-1)
  have key : kV X 23 625 222 [some (.ref h0), some (.int (nI 0))] [] [(h0, .inr (10, [.int 0, .ref q1, .ref q2, .ref q3, .ref q4, .ref q5, .ref q6, .ref q7, .int 0, .ref q8, .ref q9, .int 0, .ref q10, .int 2, .int 20, .int 0, .ref q11, .int 0, .int 0, .long 0, .int 0, .int 0, .int 0, .int 0, .ref q12, .ref q13, .ref q14, .ref q15, .ref q16, .ref q17, .ref q18, .ref q19, .int 0, .int 0, .ref q20, .int 0, .ref q21, .ref q22, .ref q23])), (q1, .inl ((kA X), 56, .inl (fun _ => 0))), (q2, .inl ((kA X), 14, .inl (fun _ => 0))), (q3, .inl ((kA X), 14, .inl (fun _ => 0))), (q4, .inl ((kA X), 14, .inl (fun _ => 0))), (q5, .inl ((kA X), 14, .inl (fun _ => 0))), (q6, .inl ((kA X), 14, .inl (fun _ => 0))), (q7, .inl ((kA X), 14, .inl (fC 2000 14))), (q8, .inl ((kA X), 14, .inl (fun _ => 0))), (q9, .inl ((kA X), 14, .inl (fun _ => 0))), (q10, .inl ((kA X), 52, .inl (fun _ => 0))), (q11, .inl ((kA X), 200, .inl (fun _ => 0))), (q12, .inl ((kA X), 88, .inl (fun _ => 0))), (q13, .inl ((kA X), 14, .inl (fun _ => 0))), (q14, .inl ((kA X), 14, .inl (fun _ => 0))), (q15, .inl ((kA X), 14, .inl (fun _ => 0))), (q16, .inl ((kA X), 5, .inl (fun _ => 0))), (q17, .inl ((kA X), 5, .inl (fun _ => 0))), (q18, .inl ((kA X), 6, .inl (fun _ => 0))), (q19, .inl ((kA X), 5, .inl (fun _ => 0))), (q20, .inl ((kA X), 30, .inl (fC (-1) 0))), (q21, .inl ((kA X), 8, .inl (fun _ => 0))), (q22, .inl ((kA X), 8, .inl (fun _ => 0))), (q23, .inl ((kA X), 8, .inl (fun _ => 0)))] := ?_
  · rw [e0] at key; exact key
  refine kl_X10_init_b hX ?_ 30 0 rfl
  exact K_vret hX hE [q1, q2, q3, q4, q5, q6, q7, q8, q9, q10, q11, q12, q13, q14, q15, q16, q17, q18, q19, q20, q21, q22, q23] rfl dX10_init_241
