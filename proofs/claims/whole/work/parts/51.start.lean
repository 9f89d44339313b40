/-- the world when both objects are made -/
def w0 : Wd := (fun k => if k = 9 then fC 2000 14 else if k = 40 then fC 2000 14 else if k = 28 then fC (-1) 30 else if k = 53 then fC (-1) 30 else if k = 5 then (fun j => if j = 9 then 2 else if j = 10 then 20 else 0) else if k = 33 then (fun j => if j = 13 then 2 else if j = 14 then 20 else 0) else fun _ => 0, 0)
/-- the addresses -/
def adF (q0 q33 b t60 t61 t62 : Nat) (u1 u2 : List Nat) (sK sV : Nat → Nat) (k : Nat) : Nat := if k = 0 then q0 else if k < 33 then u1.getD (k - 1) 0 else if k = 33 then q33 else if k < 57 then u2.getD (k - 34) 0 else if k = 60 then t60 else if k = 61 then t61 else if k = 62 then t62 else if k < 82 then sK (k - 70) else if k < 102 then sV (k - 90) else b
set_option maxRecDepth 100000 in
set_option maxHeartbeats 4000000 in
theorem w0_ws (cA : ClassId) (q0 q33 b t60 t61 t62 : Nat) (u1 u2 : List Nat) (sK sV : Nat → Nat) : wd_X9_init cA q0 u1 ++ wd_X10_init cA q33 u2 = wsOf cA (adF q0 q33 b t60 t61 t62 u1 u2 sK sV) w0 := by
  rfl
theorem K_astore_n {cc : ByteArray} {nL d mc ms pc kc ks : Nat} {own : String} {X : bX} {L : List (Option Value)} {S : List Value} {ws : va_W} (hX : kOk cc nL own d mc ms X) {j : Fin 4} {i x : Nat} (hd : decode cc pc = .ok (.astore_n j, 1)) (hi : (j : Nat) = i) (hn : i < nL) (ho : noL L i = true) (k : kV X kc ks (pc + 1) (L.set i (some (.ref x))) S ws) : kV X kc ks pc L (.ref x :: S) ws := by
  obtain ⟨p, l, e, R, s, m, args, below, meth, c, cells, slots, Qf, A, dC, dI, cA, ad, adV⟩ := X
  obtain ⟨hx, hb, hml, hown, hts, hK, hA, hlk, hfr, hlo, hce, hsl, hN⟩ := hX
  intro H locs ls hP hD hS hl
  exact lv_astore_n hx hb hd hi hl.kit (by rw [hml]; exact hn) rfl (fun ls2 hl2 => k H locs ls2 hP hD hS (LH.set (v := .ref x) ho hl2))
theorem in_0 : inGd (.instantiable RX0 11) = true := by decide +kernel
theorem in_1 : inGd (.instantiable RX1 3) = true := by decide +kernel
theorem in_2 : inGd (.instantiable RX2 5) = true := by decide +kernel
theorem in_3 : inGd (.instantiable RX3 2) = true := by decide +kernel
theorem in_4 : inGd (.instantiable RX4 5) = true := by decide +kernel
theorem in_5 : inGd (.instantiable RX5 9) = true := by decide +kernel
theorem in_6 : inGd (.instantiable RX6 2) = true := by decide +kernel
theorem in_7 : inGd (.instantiable RX7 1) = true := by decide +kernel
theorem in_8 : inGd (.instantiable RX8 5) = true := by decide +kernel
theorem in_9 : inGd (.instantiable RX9 9) = true := by decide +kernel
theorem in_10 : inGd (.instantiable RX10 39) = true := by decide +kernel
theorem lnw_9 : (inGd (.classLink RL 7 RX9) && (inGd (.instantiable RX9 9) && inGd (.initialized RX9))) = true := by decide +kernel
theorem lnt_9 : (List.range 9).all (fun a => (parseFieldDescriptor (TX9 a).2.2.1).isSome) = true := by decide +kernel
theorem lnd_9 : ∀ j, j < 9 → defaultValue ((parseFieldDescriptor (TX9 j).2.2.1).getD .int) = vp_V [.null, .null, .null, .null, .null, .null, .null, .null, .null] j := by decide +kernel
theorem lnw_10 : (inGd (.classLink RL 10 RX10) && (inGd (.instantiable RX10 39) && inGd (.initialized RX10))) = true := by decide +kernel
theorem lnt_10 : (List.range 39).all (fun a => (parseFieldDescriptor (TX10 a).2.2.1).isSome) = true := by decide +kernel
theorem lnd_10 : ∀ j, j < 39 → defaultValue ((parseFieldDescriptor (TX10 j).2.2.1).getD .int) = vp_V [.int 0, .null, .null, .null, .null, .null, .null, .null, .int 0, .null, .null, .int 0, .null, .int 0, .int 0, .int 0, .null, .int 0, .int 0, .long 0, .int 0, .int 0, .int 0, .int 0, .null, .null, .null, .null, .null, .null, .null, .null, .int 0, .int 0, .null, .int 0, .null, .null, .null] j := by decide +kernel
theorem llk_X9_init : lkOk RL 9 yX9_init = true := by decide +kernel
theorem lmd_X9_init : mdOk yX9_init 0 = true := by decide +kernel
theorem liv_X9_init : inGd (.instanceMethod yX9_init) = true := by decide +kernel
theorem lco_X9_init : inGd (.code yX9_init cX9_init 1 none) = true := by decide +kernel
theorem llk_X10_init : lkOk RL 12 yX10_init = true := by decide +kernel
theorem lmd_X10_init : mdOk yX10_init 0 = true := by decide +kernel
theorem liv_X10_init : inGd (.instanceMethod yX10_init) = true := by decide +kernel
theorem lco_X10_init : inGd (.code yX10_init cX10_init 2 none) = true := by decide +kernel
/-- what the Statement gives of the start -/
abbrev gvn : Cond := Jvm.Cond.and given_1 narrow_1
theorem gS_a : (Cond.arrayOf (.static "BentFurrows$Reader" "SLOTS" "[I") .int) ∈ flatC gvn := by decide +kernel
theorem gS_l : (Cond.eq (.length (.static "BentFurrows$Reader" "SLOTS" "[I")) (.int (Int32.ofNat 81))) ∈ flatC gvn := by decide +kernel
theorem gS_e : ∀ j, j < 81 → (Cond.eq (.elem (.static "BentFurrows$Reader" "SLOTS" "[I") (.int (Int32.ofNat j))) (.int (tbS.getD j 0))) ∈ flatC gvn := by decide +kernel
theorem gF_a : (Cond.arrayOf (.static "BentFurrows$Reader" "FIRST_SLOT" "[I") .int) ∈ flatC gvn := by decide +kernel
theorem gF_l : (Cond.eq (.length (.static "BentFurrows$Reader" "FIRST_SLOT" "[I")) (.int (Int32.ofNat 8))) ∈ flatC gvn := by decide +kernel
theorem gF_e : ∀ j, j < 8 → (Cond.eq (.elem (.static "BentFurrows$Reader" "FIRST_SLOT" "[I") (.int (Int32.ofNat j))) (.int (tbF.getD j 0))) ∈ flatC gvn := by decide +kernel
theorem gC : (Cond.eq (.static "java/lang/String" "COMPACT_STRINGS" "Z") (.int 1)) ∈ flatC gvn := by decide +kernel
theorem gP : (Cond.isRef (.static "jdk/internal/util/Preconditions" "SIOOBE_FORMATTER" "Ljava/util/function/BiFunction;")) ∈ flatC gvn := by decide +kernel
abbrev gtm (i : Nat) : Term := .string "BentFurrows$Reader" (stx.getD i (0, "")).1
theorem gT_x : ∀ i, i < 12 → (Cond.exactly (gtm i) "java/lang/String") ∈ flatC gvn := by decide +kernel
theorem gT_c : ∀ i, i < 12 → (Cond.eq (.field (gtm i) "java/lang/String" "coder" "B") (.int 0)) ∈ flatC gvn := by decide +kernel
theorem gT_a : ∀ i, i < 12 → (Cond.arrayOf (.field (gtm i) "java/lang/String" "value" "[B") .byte) ∈ flatC gvn := by decide +kernel
theorem gT_l : ∀ i, i < 12 → (Cond.eq (.length (.field (gtm i) "java/lang/String" "value" "[B")) (.int (Int32.ofNat (stl.getD i 0)))) ∈ flatC gvn := by decide +kernel
theorem gT_e : ∀ i, i < 12 → ∀ j, j < stl.getD i 0 → (Cond.eq (.elem (.field (gtm i) "java/lang/String" "value" "[B") (.int (Int32.ofNat j))) (.int ((stb.getD i []).getD j 0))) ∈ flatC gvn := by decide +kernel
theorem gT_n : ∀ i, i < 12 → ∀ j, j < 12 → i ≠ j → (Cond.not (Cond.eq (gtm i) (gtm j))) ∈ flatC gvn ∨ (Cond.not (Cond.eq (gtm j) (gtm i))) ∈ flatC gvn := by decide +kernel
theorem gT_r : ∀ i, i < 12 → (Cond.stringRef "BentFurrows$Reader" (stx.getD i (0, "")).1 (stx.getD i (0, "")).2) ∈ lw_tbl := by decide +kernel
theorem gZ_S : (Cond.laysStatic "BentFurrows$Reader" "SLOTS" "[I") ∈ lw_tbl := by decide +kernel
theorem gZ_F : (Cond.laysStatic "BentFurrows$Reader" "FIRST_SLOT" "[I") ∈ lw_tbl := by decide +kernel
theorem gZ_C : (Cond.laysStatic "java/lang/String" "COMPACT_STRINGS" "Z") ∈ lw_tbl := by decide +kernel
theorem gZ_P : (Cond.laysStatic "jdk/internal/util/Preconditions" "SIOOBE_FORMATTER" "Ljava/util/function/BiFunction;") ∈ lw_tbl := by decide +kernel
theorem gI_R : (Cond.initialized "BentFurrows$Reader") ∈ lw_tbl := by decide +kernel
theorem gI_S : (Cond.initialized "java/lang/String") ∈ lw_tbl := by decide +kernel
theorem gI_P : (Cond.initialized "jdk/internal/util/Preconditions") ∈ lw_tbl := by decide +kernel
/-- what stands still, at the start -/
theorem St_start {args : Array Value} {s : State} {A : Nat → Prop} (hts : ∀ w ∈ lw_tbl, w.before args s = true) (hgv : gvn.before args s = true) (hA : ∀ a : Nat, a < s.heap.size → ¬ A a) :
    ∃ (t60 t61 t62 : Nat) (sK sV : Nat → Nat), ∀ (ad adV : Nat → Nat), ad 60 = t60 → ad 61 = t61 → ad 62 = t62 → (∀ i, i < 12 → ad (70 + i) = sK i ∧ ad (90 + i) = sV i) → StA ad adV A s := by
  have hs := flat_of_before _ hgv
  obtain ⟨t60, e60, T60⟩ := va_Tof (tm := .static "BentFurrows$Reader" "SLOTS" "[I") (ty := .int) (N := 81) (f := fun j => .int (tbS.getD j 0)) (A := A) (by decide) (hs _ gS_a) (va_eqt (hs _ gS_l)) (fun j hj => va_eqt (hs _ (gS_e j hj))) hA
  obtain ⟨t61, e61, T61⟩ := va_Tof (tm := .static "BentFurrows$Reader" "FIRST_SLOT" "[I") (ty := .int) (N := 8) (f := fun j => .int (tbF.getD j 0)) (A := A) (by decide) (hs _ gF_a) (va_eqt (hs _ gF_l)) (fun j hj => va_eqt (hs _ (gF_e j hj))) hA
  obtain ⟨sK, sV, hvs, hev⟩ := vk_Sof (args := args) (s := s) (N := 12) (tm := gtm) (len := stl) (byt := stb) (A := A) (fun i hi => by have := st_len i hi; omega) (fun i hi => hs _ (gT_x i hi)) (fun i hi => hs _ (gT_c i hi)) (fun i hi => hs _ (gT_a i hi)) (fun i hi => hs _ (gT_l i hi)) (fun i hi j hj => hs _ (gT_e i hi j hj)) (fun i j hi hj hn => (gT_n i hi j hj hn).imp (hs _) (hs _)) hA
  have hq := va_Zqof (A := A) (hts _ gZ_P) (hts _ gI_P) (hs _ gP) hA
  have key : ∃ t62 : Nat, va_Z "jdk/internal/util/Preconditions" "SIOOBE_FORMATTER" "Ljava/util/function/BiFunction;" .null A s s.heap ∨ va_Z "jdk/internal/util/Preconditions" "SIOOBE_FORMATTER" "Ljava/util/function/BiFunction;" (.ref t62) A s s.heap := by
    rcases hq with h | ⟨t, h⟩
    · exact ⟨0, Or.inl h⟩
    · exact ⟨t, Or.inr h⟩
  obtain ⟨t62, h62⟩ := key
  refine ⟨t60, t61, t62, sK, sV, fun ad adV a60 a61 a62 aS => ?_⟩
  have hvs2 : vk_S 12 stl stb (fun i => ad (70 + i)) (fun i => ad (90 + i)) A s s.heap := by
    refine ⟨fun i hi => ?_, fun i j hi hj e => hvs.2 i j hi hj ?_⟩
    · show va_O _ (ad (70 + i)) _ _ _ ∧ va_OF _ _ _ _ (ad (70 + i)) _ _ _ ∧ va_OF _ _ _ (.ref (ad (90 + i))) (ad (70 + i)) _ _ _ ∧ va_T _ (ad (90 + i)) _ _ _ _ _
      rw [(aS i hi).1, (aS i hi).2]; exact hvs.1 i hi
    · have e : ad (70 + i) = ad (70 + j) := e
      rw [(aS i hi).1, (aS j hj).1] at e; exact e
  unfold StA
  rw [a60, a61, a62]
  refine ⟨va_Zof (hts _ gZ_S) (hts _ gI_R) e60 hA, T60, va_Zof (hts _ gZ_F) (hts _ gI_R) e61 hA, T61, ⟨va_Zof (hts _ gZ_C) (hts _ gI_S) (va_eqi (hs _ gC)) hA, h62⟩, fun i hi => ?_, hvs2, fun w hw => ?_⟩
  · rw [(aS i hi).1]
    exact vk_R.of (A := args) (hts _ (gT_r i hi)) (by first | exact hev i hi | (rw [← hev i hi]; rfl))
  · refine va_Nw.of ?_ (hts _ (ne_in hw))
    have hn := (List.mem_filter.mp hw).2
    cases w <;> first | rfl | simp [isNest] at hn

set_option maxRecDepth 100000 in
set_option maxHeartbeats 8000000 in
/-- the law from its entry, if its pure function answers 1 -/
theorem whole_start_open (hp : ∀ (xs : Nat → Int32) (Ls : Nat), Ls ≤ 256 → ∃ (n : Nat) (w' : Wd), f_L_law_18 xs Ls n 0 w0 = some (1, w')) {p : Program} {e : Env} {s : State} {m : MethodId} {below : List Frame} {meth : Method} {c : Code} (l : Launch) {b L : Nat} {xs : Nat → Int32} (hL : L ≤ 256) (C0 : lw_At p s m meth c b L xs) : W p l e room_1 s m #[Value.ref b] below meth c s.heap [] 0 0 (lw_Z below #[Value.ref b] s) (entryFrame m ([Value.ref b] : List Value).toArray 4) := by
  obtain ⟨hx, hb, hr, hml, hown, hts, hXs, hbl, hlocks, hgv⟩ := C0
  have hgd : ∀ w ∈ lw_gd, w.before #[Value.ref b] s = true := fun w h => hts w (gd_in h)
  obtain ⟨c0, i0, k0⟩ := u_known (C := RX0) (T := TX0) (N := 11) (n := 11) hgd (clOk_mem cl_0 rfl) (hgd _ (inGd_mem in_0))
  obtain ⟨c1, i1, k1⟩ := u_known (C := RX1) (T := TX1) (N := 3) (n := 3) hgd (clOk_mem cl_1 rfl) (hgd _ (inGd_mem in_1))
  obtain ⟨c2, i2, k2⟩ := u_known (C := RX2) (T := TX2) (N := 5) (n := 5) hgd (clOk_mem cl_2 rfl) (hgd _ (inGd_mem in_2))
  obtain ⟨c3, i3, k3⟩ := u_known (C := RX3) (T := TX3) (N := 2) (n := 2) hgd (clOk_mem cl_3 rfl) (hgd _ (inGd_mem in_3))
  obtain ⟨c4, i4, k4⟩ := u_known (C := RX4) (T := TX4) (N := 5) (n := 5) hgd (clOk_mem cl_4 rfl) (hgd _ (inGd_mem in_4))
  obtain ⟨c5, i5, k5⟩ := u_known (C := RX5) (T := TX5) (N := 9) (n := 9) hgd (clOk_mem cl_5 rfl) (hgd _ (inGd_mem in_5))
  obtain ⟨c6, i6, k6⟩ := u_known (C := RX6) (T := TX6) (N := 2) (n := 2) hgd (clOk_mem cl_6 rfl) (hgd _ (inGd_mem in_6))
  obtain ⟨c7, i7, k7⟩ := u_known (C := RX7) (T := TX7) (N := 1) (n := 1) hgd (clOk_mem cl_7 rfl) (hgd _ (inGd_mem in_7))
  obtain ⟨c8, i8, k8⟩ := u_known (C := RX8) (T := TX8) (N := 5) (n := 5) hgd (clOk_mem cl_8 rfl) (hgd _ (inGd_mem in_8))
  obtain ⟨c9, i9, k9⟩ := u_known (C := RX9) (T := TX9) (N := 9) (n := 9) hgd (clOk_mem cl_9 rfl) (hgd _ (inGd_mem in_9))
  obtain ⟨c10, i10, k10⟩ := u_known (C := RX10) (T := TX10) (N := 39) (n := 39) hgd (clOk_mem cl_10 rfl) (hgd _ (inGd_mem in_10))
  obtain ⟨dC, dI, hKc⟩ : ∃ (dC : Nat → ClassId) (dI : Nat → Nat → Nat), ∀ (k : Nat) (q : vw_C), vwCl[k]? = some q → u_Kn s q.1 q.2.1 q.2.2 (dC k) (dI k) := by
    refine ⟨fun k => if k = 0 then c0 else if k = 1 then c1 else if k = 2 then c2 else if k = 3 then c3 else if k = 4 then c4 else if k = 5 then c5 else if k = 6 then c6 else if k = 7 then c7 else if k = 8 then c8 else if k = 9 then c9 else c10, fun k => if k = 0 then i0 else if k = 1 then i1 else if k = 2 then i2 else if k = 3 then i3 else if k = 4 then i4 else if k = 5 then i5 else if k = 6 then i6 else if k = 7 then i7 else if k = 8 then i8 else if k = 9 then i9 else i10, ?_⟩
    intro k q hq
    match k, hq with
    | 0, hq => cases hq; exact k0
    | 1, hq => cases hq; exact k1
    | 2, hq => cases hq; exact k2
    | 3, hq => cases hq; exact k3
    | 4, hq => cases hq; exact k4
    | 5, hq => cases hq; exact k5
    | 6, hq => cases hq; exact k6
    | 7, hq => cases hq; exact k7
    | 8, hq => cases hq; exact k8
    | 9, hq => cases hq; exact k9
    | 10, hq => cases hq; exact k10
    | k + 11, hq => simp [vwCl] at hq
  obtain ⟨cA, hA1, hA2⟩ := cA_of (hgd _ (inGd_mem k_arr))
  have hK : va_K (dC, dI) vwCl [(cA, .int)] s := ⟨hKc, fun k q h => by
    match k, h with
    | 0, h => cases h; exact ⟨hA1, hA2⟩
    | k + 1, h => simp at h⟩
  obtain ⟨t60, t61, t62, sK, sV, hSt⟩ := St_start (A := fun q => s.heap.size ≤ q) hts hgv (fun a h => Nat.not_le.mpr h)
  have hnest : ∀ w ∈ lw_nest, va_Nw w s := (hSt (fun k => if k = 60 then t60 else if k = 61 then t61 else if k = 62 then t62 else if k < 82 then sK (k - 70) else sV (k - 90)) id rfl rfl rfl (fun i hi => by
    constructor
    · show (if 70 + i = 60 then t60 else if 70 + i = 61 then t61 else if 70 + i = 62 then t62 else if 70 + i < 82 then sK (70 + i - 70) else sV (70 + i - 90)) = sK i
      rw [if_neg (by omega), if_neg (by omega), if_neg (by omega), if_pos (by omega), show 70 + i - 70 = i by omega]
    · show (if 90 + i = 60 then t60 else if 90 + i = 61 then t61 else if 90 + i = 62 then t62 else if 90 + i < 82 then sK (90 + i - 70) else sV (90 + i - 90)) = sV i
      rw [if_neg (by omega), if_neg (by omega), if_neg (by omega), if_neg (by omega), show 90 + i - 90 = i by omega])).2.2.2.2.2.2.2
  obtain ⟨X, eX⟩ : ∃ X : bX, X = (p, l, e, room_1, s, m, #[Value.ref b], below, meth, c, 0, 0, lw_Z below #[Value.ref b] s, (fun q => s.heap.size ≤ q), dC, dI, cA, id, id) := ⟨_, rfl⟩
  have hX : kOk code 4 RL (59 + 1) 600000 7302250 X := by
    rw [eX]
    exact ⟨hx, hb, hml, hown, hgd, hK, fun q h => h, hlocks, by decide, by decide, by decide, by decide, hnest⟩
  have hkA : kA X = cA := by rw [eX]; rfl
  have key : kV X 0 0 0 [some (.ref b), none, none, none] [] [] := by
    refine K_new (ci := 9) (N := 9) (fs := [.null, .null, .null, .null, .null, .null, .null, .null, .null]) hX rfl cl_9 lnw_9 lnt_9 lnd_9 (by decide) (by decide) dL_law_0 (fun q0 => ?_)
    refine K_dup hX dL_law_3 rfl ?_
    refine K_callI (As := []) (S := [.ref q0]) (wr := []) (d := 59) hX (k_X9_init (by decide)) llk_X9_init lmd_X9_init liv_X9_init rfl lco_X9_init (by decide) [0] [] rfl rfl rfl rfl (by decide) rfl rfl (Nat.le_of_ble_eq_true rfl) (by decide) (by decide) dL_law_4 (fun u1 => ?_)
    refine K_astore_n hX dL_law_7 rfl (by decide) rfl ?_
    refine K_new (ci := 10) (N := 39) (fs := [.int 0, .null, .null, .null, .null, .null, .null, .null, .int 0, .null, .null, .int 0, .null, .int 0, .int 0, .int 0, .null, .int 0, .int 0, .long 0, .int 0, .int 0, .int 0, .int 0, .null, .null, .null, .null, .null, .null, .null, .null, .int 0, .int 0, .null, .int 0, .null, .null, .null]) hX rfl cl_10 lnw_10 lnt_10 lnd_10 (by decide) (by decide) dL_law_8 (fun q33 => ?_)
    refine K_dup hX dL_law_11 rfl ?_
    refine K_callI (As := []) (S := [.ref q33]) (wr := wd_X9_init (kA X) q0 u1) (d := 59) hX (k_X10_init (by decide)) llk_X10_init lmd_X10_init liv_X10_init rfl lco_X10_init (by decide) [33] [0, 1, 2, 3, 4, 5, 6, 7, 8, 9, 10, 11, 12, 13, 14, 15, 16, 17, 18, 19, 20, 21, 22, 23, 24, 25, 26, 27, 28, 29, 30, 31, 32] rfl rfl rfl rfl (by decide) rfl rfl (Nat.le_of_ble_eq_true rfl) (by decide) (by decide) dL_law_12 (fun u2 => ?_)
    refine K_astore_n hX dL_law_15 rfl (by decide) rfl ?_
    refine K_iconst (v := 0) hX dL_law_16 (by decide) ?_
    refine K_istore_n hX dL_law_17 rfl (by decide) rfl ?_
    have e0 := w0_ws (kA X) q0 q33 b t60 t61 t62 u1 u2 sK sV
    show kV X _ _ 18 [some (.ref b), some (.ref q0), some (.ref q33), some (.int 0)] [] (wd_X9_init (kA X) q0 u1 ++ wd_X10_init (kA X) q33 u2)
    rw [e0, hkA]
    obtain ⟨n, w', hw⟩ := hp xs L hL
    subst eX
    intro H locs ls hP hD hS hl
    generalize ead : adF q0 q33 b t60 t61 t62 u1 u2 sK sV = ad at hP hD
    have a300 : ad 300 = b := by rw [← ead]; rfl
    have a0 : ad 0 = q0 := by rw [← ead]; rfl
    have a33 : ad 33 = q33 := by rw [← ead]; rfl
    have hStA : StA ad ad (fun q => s.heap.size ≤ q) s := by
      refine hSt ad ad (by rw [← ead]; rfl) (by rw [← ead]; rfl) (by rw [← ead]; rfl) (fun i hi => ?_)
      rw [← ead]
      unfold adF
      constructor
      · rw [if_neg (by omega), if_neg (by omega), if_neg (by omega), if_neg (by omega), if_neg (by omega), if_neg (by omega), if_neg (by omega), if_pos (by omega), show 70 + i - 70 = i by omega]
      · rw [if_neg (by omega), if_neg (by omega), if_neg (by omega), if_neg (by omega), if_neg (by omega), if_neg (by omega), if_neg (by omega), if_neg (by omega), if_pos (by omega), show 90 + i - 90 = i by omega]
    have hI : adI ad := fun i j hi hj e => hD.1 i j _ _ (wsOf_at hi) (wsOf_at hj) e
    have hAk : ∀ k, k < 57 → s.heap.size ≤ ad k := fun k hk => hD.2 k _ (wsOf_at hk)
    have bb := v_L_law_18 (d := 60) (by decide) (X := (p, l, e, room_1, s, m, #[Value.ref b], below, meth, c, 57, 1377, lw_Z below #[Value.ref b] s, (fun q => s.heap.size ≤ q), dC, dI, cA, ad, ad)) ⟨hx, hb, hml, hown, hgd, hK, fun q h => h, hlocks, by decide, by decide, by decide, by decide, hStA, hI, hAk⟩ (r := (1, w')) ⟨rfl, ⟨b, rfl⟩, hr, rfl, by decide, by decide, fun q h => h⟩ ⟨by rw [a300]; exact hXs, by rw [a300]; exact hbl, by rw [a300]; exact Nat.not_le.mpr hbl⟩ rfl n 0 w0 hw
    refine bb H locs ls hP hS ⟨hl.1, hl.2.1, fun i v h => ?_⟩
    match i, h with
    | 0, h => cases h; show _ = some (Slot.val (Value.ref (ad 300))); rw [a300]; exact hl.2.2 0 (.ref b) rfl
    | 1, h => cases h; show _ = some (Slot.val (Value.ref (ad 0))); rw [a0]; exact hl.2.2 1 (.ref q0) rfl
    | 2, h => cases h; show _ = some (Slot.val (Value.ref (ad 33))); rw [a33]; exact hl.2.2 2 (.ref q33) rfl
    | 3, h => cases h; exact hl.2.2 3 (.int 0) rfl
    | i + 4, h => simp at h
  subst eX
  rw [lg_entry_eq]
  refine key s.heap [] _ (fun k q h => by simp at h) ⟨fun i j p q h => by simp at h, fun k q h => by simp at h⟩ va_S.rf ?_
  rw [hml]
  exact argL_LH (ad := id) (As := [.ref b]) (lv_entry [.ref b] (Nat.le_of_ble_eq_true rfl))
