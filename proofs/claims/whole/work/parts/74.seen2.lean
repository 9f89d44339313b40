/-! seen, the reference; both -/
theorem ar1 (u v : Int32) : u - v + 1 = u + 1 - v := by
  rw [Int32.sub_eq_add_neg, Int32.sub_eq_add_neg, Int32.add_assoc, Int32.add_comm (-v) 1, ← Int32.add_assoc]
theorem ar2 (u v : Int32) : u - v + (-1) = u - (v + 1) := by
  apply Int32.toBitVec_inj.1
  simp only [Int32.toBitVec_add, Int32.toBitVec_sub, Int32.toBitVec_neg]
  generalize u.toBitVec = a
  generalize v.toBitVec = b
  generalize (1 : Int32).toBitVec = c
  rw [BitVec.sub_eq_add_neg, BitVec.sub_eq_add_neg, BitVec.neg_add, BitVec.sub_eq_add_neg, BitVec.add_assoc]
/-- what the reference adds for one bundle -/
def bitIf (c : Bool) (i : Nat) : Int32 := if c then jshl 1 (nI i) else 0
def lkV (w : Wd) (N i : Nat) : Int32 := if shB w N i then 0 else if w.1 6 (9 * i + 2) = 0 then 1 else -1
theorem m_seen_47 {w : Wd} (h : Rel w) {N b : Nat} (hN : N ≤ 8) (e : w.1 33 35 = nI N) (hb : b < 8) (k22 : Int32 → Int32 → Int32 → Int32 → Int32 → Wd → Option (Int32 × Wd)) (x1 fl sd lk : Int32) : ∀ (n p : Nat), p ≤ N → N - p < n →
    f_X10_seen_47 k22 n x1 fl sd lk (nI b) (b2i (shB w p b)) (b2i (zB w p b)) (nI p) w = k22 x1 (fl ||| bitIf (shB w N b && !zB w N b) b) (sd ||| bitIf (zB w N b) b) (lk + lkV w N b) (nI (b + 1)) w := by
  have r56 := h.e.2.2.2.2.2.2.2.2.2.2.2.2.2.2.2.2.2
  intro n
  induction n with
  | zero => intro p _ h; omega
  | succ n ih =>
    intro p hp hn
    rw [f_X10_seen_47, e]
    by_cases hpn : p = N
    · subst hpn
      rw [if_pos (nI_le (Nat.le_refl p) (by omega))]
      unfold f_X10_seen_142 f_X10_seen_143 f_X10_seen_159 lkV bitIf
      have o0 : f_X10_of (nI b) 0 w = some (w.1 6 (9 * b + 2), w) := by
        have := m_of (b := b) (k := 0) hb (by decide) w
        rw [h.of hb (by decide)] at this
        exact this
      have a0 : lk + 0 = lk := Int32.add_zero lk
      simp only [b2i_0, o0, Option.bind_some, p1]
      cases shB w p b <;> cases zB w p b <;> by_cases hw : w.1 6 (9 * b + 2) = 0 <;> simp [hw, or_0]
    · have i1 := ih (p + 1) (by omega) (by omega)
      have hp8 : p < 8 := by omega
      have es : shB w (p + 1) b = (shB w p b || shw w p b) := rfl
      have ez : zB w (p + 1) b = (zB w p b || (shw w p b && bt (w.1 32 p) b)) := rfl
      rw [es, ez] at i1
      rw [if_neg (nI_ge (by omega) (by omega))]
      unfold f_X10_seen_72 f_X10_seen_77 f_X10_seen_111
      simp only [m_doesShow hp8 hb h, Option.bind_some, b2i_0, p1, inB_nI hp8 (show 8 < 2 ^ 31 by decide), ix_nI (show p < 2 ^ 31 by omega), if_true, r56, bit1 (w.1 32 p) (show b < 32 by omega), b2i_1]
      cases hs : shB w p b <;> cases hz : zB w p b <;> cases hq : shw w p b <;> cases ht : bt (w.1 32 p) b <;> rw [hs, hz, hq, ht] at i1 <;> simp only [reduceCtorEq, if_true, if_false, Bool.false_eq_true] <;> exact i1
def flP (w : Wd) (N i : Nat) : Bool := bt (w.1 5 0) i && (shB w N i && !zB w N i)
def sdP (w : Wd) (N i : Nat) : Bool := bt (w.1 5 0) i && zB w N i
theorem orS_add (p : Nat → Bool) (i : Nat) : orS p 0 (i + 1) = orS p 0 i ||| bitIf (p i) i := by
  unfold bitIf
  cases hp : p i with
  | true => rw [orS_t (by rw [Nat.zero_add]; exact hp), Nat.zero_add]; rfl
  | false => rw [orS_f (by rw [Nat.zero_add]; exact hp)]; exact (or_0 _).symm
theorem m_seen_22 {w : Wd} (h : Rel w) {N : Nat} (hN : N ≤ 8) (e : w.1 33 35 = nI N) (x1 : Int32) (hx : x1 = 0 ∨ x1 = 1 ∨ x1 = 2) : ∀ (n i : Nat), i ≤ 8 → 8 - i < n →
    f_X10_seen_22 n x1 (orS (flP w N) 0 i) (orS (sdP w N) 0 i) (nI (fb_ct (opN w N) i) - nI (fb_ct (opE w N) i)) (nI i) w = some (if x1 = 0 then orS (flP w N) 0 8 else if x1 = 1 then orS (sdP w N) 0 8 else b2i (decide (fb_ct (opE w N) 8 < fb_ct (opN w N) 8)), w) := by
  intro n
  induction n with
  | zero => intro i _ h; omega
  | succ n ih =>
    intro i hi hn
    rw [f_X10_seen_22]
    have l1 : ∀ (p : Nat → Bool), fb_ct p 8 ≤ 8 := fun p => fb_ct_le p 8
    by_cases hi8 : i = 8
    · subst hi8
      rw [if_pos (by decide)]
      by_cases c0 : x1 = 0
      · rw [if_pos c0, if_pos c0]
      · rw [if_neg c0, if_neg c0]
        by_cases c1 : x1 = 1
        · rw [if_pos c1, if_pos c1]
        · rw [if_neg c1, if_neg c1]
          have a := l1 (opE w N)
          have b := l1 (opN w N)
          have ti := pk_sub_toInt (a := fb_ct (opN w N) 8) (b := fb_ct (opE w N) 8) (by omega) (by omega)
          by_cases h2 : fb_ct (opE w N) 8 < fb_ct (opN w N) 8
          · have : ¬ nI (fb_ct (opN w N) 8) - nI (fb_ct (opE w N) 8) ≤ 0 := by
              rw [fa_le, ti]
              have z : (0 : Int32).toInt = 0 := by decide
              omega
            rw [if_neg this, decide_eq_true h2]; rfl
          · have : nI (fb_ct (opN w N) 8) - nI (fb_ct (opE w N) 8) ≤ 0 := by
              rw [fa_le, ti]
              have z : (0 : Int32).toInt = 0 := by decide
              omega
            rw [if_pos this, decide_eq_false h2]; rfl
    · have hi8 : i < 8 := by omega
      have i1 := ih (i + 1) (by omega) (by omega)
      rw [if_neg (n8 hi8), m_isBundle, Option.bind_some]
      dsimp only
      rw [h.told, show isT 7 (w.1 5 0) (nI i) = bt (w.1 5 0) i from nI_isT (n := 7) (by omega) (by decide), p1]
      rw [orS_add, orS_add, ct_s, ct_s] at i1
      cases hb : bt (w.1 5 0) i with
      | false =>
        rw [if_pos bz]
        have f1 : flP w N i = false := by unfold flP; rw [hb]; rfl
        have f2 : sdP w N i = false := by unfold sdP; rw [hb]; rfl
        have f3 : opN w N i = false := by unfold opN; rw [hb]; rfl
        have f4 : opE w N i = false := by unfold opE; rw [hb]; rfl
        rw [f1, f2, f3, f4, b2i_f] at i1
        rw [show bitIf false i = 0 from rfl, or_0, or_0, Int32.add_zero, Int32.add_zero] at i1
        exact i1
      | true =>
        rw [if_neg bnz]
        have m1 := m_seen_47 h hN e hi8 (f_X10_seen_22 n) x1 (orS (flP w N) 0 i) (orS (sdP w N) 0 i) (nI (fb_ct (opN w N) i) - nI (fb_ct (opE w N) i)) fu 0 (Nat.zero_le _) (Nat.lt_of_le_of_lt (by omega : N - 0 ≤ 8) (by decide))
        have f1 : flP w N i = (shB w N i && !zB w N i) := by unfold flP; rw [hb]; rfl
        have f2 : sdP w N i = zB w N i := by unfold sdP; rw [hb]; rfl
        rw [f1, f2] at i1
        obtain ⟨m, -, hm, em⟩ := (h.2.2.1 i hi8 hb).2.2.2.2.1
        have el0 : ∀ u v : Int32, u - v + lkV w N i = u + b2i (opN w N i) - (v + b2i (opE w N i)) := by
          intro u v
          unfold lkV opN opE
          rw [hb, em]
          rcases (show m = 0 ∨ m = 1 by omega) with rfl | rfl
          · cases shB w N i
            · show u - v + 1 = u + 1 - (v + 0)
              rw [Int32.add_zero, ar1]
            · show u - v + 0 = u + 0 - (v + 0)
              rw [Int32.add_zero, Int32.add_zero, Int32.add_zero]
          · cases shB w N i
            · show u - v + (-1) = u + 0 - (v + 1)
              rw [Int32.add_zero, ar2]
            · show u - v + 0 = u + 0 - (v + 0)
              rw [Int32.add_zero, Int32.add_zero, Int32.add_zero]
        have el := el0 (nI (fb_ct (opN w N) i)) (nI (fb_ct (opE w N) i))
        rw [el] at m1
        exact m1.trans i1
theorem op_seen (p0 : Int32) {w : Wd} (h : Rel w) : Agree (f_X9_seen p0) (f_X10_seen p0) w := by
  obtain ⟨N, hN, e1, e2⟩ := h.npic
  have hfl : ∀ x1 : Int32, (x1 = 0 ∨ x1 = 1 ∨ x1 = 2) → f_X10_seen x1 w = some (if x1 = 0 then orS (flP w N) 0 8 else if x1 = 1 then orS (sdP w N) 0 8 else b2i (decide (fb_ct (opE w N) 8 < fb_ct (opN w N) 8)), w) := by
    intro x1 hx
    unfold f_X10_seen
    rw [e_in, Option.bind_some]
    dsimp only
    have hw : wi x1 0 2 = true := by rcases hx with rfl | rfl | rfl <;> decide
    rw [hw, if_neg bnz]
    have := m_seen_22 h hN e2 x1 hx fu 0 (by decide) (by decide)
    have z : nI (fb_ct (opN w N) 0) - nI (fb_ct (opE w N) 0) = 0 := by show nI 0 - nI 0 = 0; decide
    rw [z] at this
    exact this
  have bflat : ∀ y z : Int32, (∀ i, i < 32 → bt y i = exB (fun q => duB w q i) N) → (∀ i, i < 32 → bt z i = exB (fun q => seB w q i) N) → y &&& (z ^^^ (-1)) = orS (flP w N) 0 8 := by
    intro y z hy hz
    apply b_ext
    intro i hi
    rw [b_and, b_xor, b_m1 i hi, hy i hi, hz i hi, due_sh, see_z, bt_orS _ 0 8 (by decide) i hi, Nat.zero_add, decide_eq_true (Nat.zero_le i), Bool.true_and]
    unfold flP
    cases decide (i < 8) <;> cases bt (w.1 5 0) i <;> cases shB w N i <;> cases zB w N i <;> rfl
  have bstand : ∀ z : Int32, (∀ i, i < 32 → bt z i = exB (fun q => seB w q i) N) → z = orS (sdP w N) 0 8 := by
    intro z hz
    apply b_ext
    intro i hi
    rw [hz i hi, see_z, bt_orS _ 0 8 (by decide) i hi, Nat.zero_add, decide_eq_true (Nat.zero_le i), Bool.true_and]
    rfl
  obtain ⟨y, ey, hy⟩ := e_due hN e1
  obtain ⟨z, ez, hz⟩ := e_stand hN e1
  unfold Agree
  by_cases c0 : p0 = 0
  · subst c0
    refine ⟨orS (flP w N) 0 8, w, w, ?_, hfl 0 (Or.inl rfl), h⟩
    unfold f_X9_seen f_X2_flat
    rw [if_pos rfl, ey, Option.bind_some]
    dsimp only
    rw [ez, Option.bind_some, Option.bind_some]
    dsimp only
    rw [bflat y z hy hz]
  by_cases c1 : p0 = 1
  · subst c1
    refine ⟨orS (sdP w N) 0 8, w, w, ?_, hfl 1 (Or.inr (Or.inl rfl)), h⟩
    unfold f_X9_seen
    rw [if_neg (by decide), if_pos rfl, ez, Option.bind_some, bstand z hz]
  by_cases c2 : p0 = 2
  · subst c2
    refine ⟨b2i (decide (fb_ct (opE w N) 8 < fb_ct (opN w N) 8)), w, w, ?_, hfl 2 (Or.inr (Or.inr rfl)), h⟩
    unfold f_X9_seen f_X2_bestSun f_X0_toldBundles
    rw [if_neg (by decide), if_neg (by decide), if_pos rfl, Option.bind_some]
    dsimp only
    rw [ey, Option.bind_some]
    dsimp only
    have := e_best_22 (w := w) (N := N) (x := (w.1 5 0 &&& 255) &&& (y ^^^ (-1))) (fun i hi => by
      rw [b_and, b_and, b_255, decide_eq_true hi, Bool.and_true, b_xor, b_m1 i (by omega), hy i (by omega), due_sh, decide_eq_true hi]
      cases bt (w.1 5 0) i <;> cases shB w N i <;> rfl) fu 0 (by decide) (by decide)
    rw [show f_X2_bestSun_22 fu ((w.1 5 0 &&& 255) &&& (y ^^^ (-1))) 0 0 0 w = _ from this, Option.bind_some]
  · refine ⟨-3, w, w, ?_, ?_, h⟩
    · unfold f_X9_seen
      rw [if_neg c0, if_neg c1, if_neg c2]
    · unfold f_X10_seen
      rw [e_in, Option.bind_some]
      dsimp only
      have hw : wi p0 0 2 = false := by
        cases hq : wi p0 0 2 with
        | false => rfl
        | true =>
          obtain ⟨j, hj, rfl⟩ := wi_nI (n := 2) (by decide) hq
          rcases (show j = 0 ∨ j = 1 ∨ j = 2 by omega) with rfl | rfl | rfl
          · exact absurd rfl c0
          · exact absurd rfl c1
          · exact absurd rfl c2
      rw [hw, if_pos bz]
