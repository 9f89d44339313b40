/-! the reference's reading of all lines; fault -/
theorem m_read0 {w : Wd} {T : Nat → Nat} {N p : Nat} {d n f r : Int32} {A : Nat → Int32} (hp : p ≤ N) (m : Nat) : f_X10_isRead_12 (m + 1) 0 (mR w (nI (tE T N p)) (nI (tB T N p)) d n f r A (tkV T N (tB T N p) (tE T N p))) = if tB T N p = N then some (1, mR w (nI (tE T N p)) (nI (tB T N p)) d n f r A (tkV T N (tB T N p) (tE T N p))) else some (0, mR w (nI (tE T N p)) (nI (tB T N p)) d n (nI (tB T N p)) r A (tkV T N (tB T N p) (tE T N p))) := by
  rw [f_X10_isRead_12, if_pos rfl, mR_2]
  by_cases c : tB T N p = N
  · rw [if_pos ((tk_end hp).mpr c), if_pos c]
  · rw [if_neg (fun z => c ((tk_end hp).mp z)), if_neg c]
    unfold f_X10_fails
    rw [mR_18, mR_s22]
    rfl
/-- what the reference's reading answers -/
def RD (w : Wd) (R : Option Nat × Nat × (Nat → Nat) × (Nat → Nat → Nat)) (o : Option (Int32 × Wd)) : Prop :=
  ∃ p t d n f r A k, o = some (b2i R.1.isNone, mR w p t d n f r A k) ∧ (∀ b, R.1 = some b → f = nI b) ∧ (R.1 = none → r = nI R.2.1 ∧ rwOK A R.2.1 R.2.2.1 R.2.2.2)
theorem RD_no {w : Wd} {b l : Nat} {r : Int32} {K : Nat → Nat} {W : Nat → Nat → Nat} {v : Wd} (h : MF w v b r) : RD w (some b, l, K, W) (some (0, v)) := by
  obtain ⟨p, t, d, n, A, k, rfl⟩ := h
  exact ⟨p, t, d, n, nI b, r, A, k, rfl, (fun c e => by cases e; rfl), (fun z => by cases z)⟩
theorem RD_yes {w : Wd} {l : Nat} {K : Nat → Nat} {W : Nat → Nat → Nat} {p t d n f : Int32} {A : Nat → Int32} {k : Int64} (h : rwOK A l K W) : RD w (none, l, K, W) (some (1, mR w p t d n f (nI l) A k)) :=
  ⟨p, t, d, n, f, nI l, A, k, rfl, (fun c e => by cases e), fun _ => ⟨rfl, h⟩⟩
theorem m_read {w : Wd} {T : Nat → Nat} {N : Nat} (h : hTm w T N) : ∀ (n m l p : Nat) (K : Nat → Nat) (W : Nat → Nat → Nat) (A : Nat → Int32) (v : Wd) (R : Option Nat × Nat × (Nat → Nat) × (Nat → Nat → Nat)), rdF T N (m + 1) l p K W = R → l + (m + 1) = 8 → m + 3 < n → p ≤ N → rwOK A l K W → MS w v p (nI l) A → RD w R (f_X10_isRead_12 n 1 v) := by
  have hN := h.1
  intro n
  induction n with
  | zero => intro m l p K W A v R _ _ h; omega
  | succ n ih =>
    intro m l p K W A v R hR hlm hn hp hA hv
    have hl8 : l < 8 := by omega
    have e23 : v.1 33 23 = nI l := by obtain ⟨t, d, n, f, k, rfl⟩ := hv; exact mR_23
    obtain ⟨l1, l2⟩ := m_isLine h hp (q := 11 * l) (by omega) hv
    have hpN := lnG_b (T := T) hp
    have hC := rdF_c hR
    obtain ⟨G, hG⟩ : ∃ G, lnG T N p = G := ⟨_, rfl⟩
    obtain ⟨k, hK⟩ : ∃ k, lnK T N p = k := ⟨_, rfl⟩
    rw [hG, hK] at l1 hC
    rw [hK] at l2
    rw [hG] at hpN
    rw [f_X10_isRead_12, if_neg i10, e23, show (11 : Int32) * nI l = nI (11 * l) from pk_mul 11 l]
    rcases hC with ⟨hk, rfl⟩ | ⟨hk, ⟨hg, rfl⟩ | ⟨hg, hC⟩⟩
    · obtain ⟨v1, e1, f1⟩ := l2 hk
      rw [e1, Option.bind_some]
      dsimp only
      rw [if_pos rfl]
      exact RD_no f1
    · obtain ⟨v1, e1, q1, q2⟩ := l1 hk
      rw [e1, Option.bind_some]
      dsimp only
      rw [hg, if_pos bz]
      exact RD_no (q2 hg)
    · obtain ⟨v1, e1, q1, q2⟩ := l1 hk
      obtain ⟨A1, s1, r1, r2⟩ := q1 hg
      have hb2 := tB_b T hpN
      have he2 := tE_b T hpN
      have hok := rwOK_s hA hk (A' := A1) (V := G.2.2) (fun i hi => by rw [r2 i (by omega), pk_un (by omega)]) (by rw [r2 _ (Nat.le_refl _), pk_us]) r1
      obtain ⟨t, d, n1, f, k0, rfl⟩ := s1
      rw [e1, Option.bind_some]
      dsimp only
      rw [hg, if_neg bnz, mR_23, p1, mR_s23]
      obtain ⟨d', n', e2, -⟩ := m_next h hpN (t := t) (d := d) (n := n1) (f := f) (r := nI (l + 1)) (A := A1) (k := k0)
      rw [e2, Option.bind_some, mR_2, mR_23]
      obtain ⟨n, rfl⟩ : ∃ j, n = j + 1 := ⟨n - 1, by omega⟩
      rcases hC with ⟨c1, rfl⟩ | ⟨c1, hC⟩
      · have hns : ¬ isW T (tB T N G.2.1) (tE T N G.2.1) 0 = true := fun z => by
          have := (isW_iff.mp z).1
          rw [show wLn 0 = 1 from rfl] at this
          omega
        rw [if_neg (fun z => hns ((tk_semi hpN).mp z)), m_read0 hpN, if_pos c1]
        exact RD_yes hok
      · rcases hC with ⟨hw, rfl⟩ | ⟨hw, ⟨c3, rfl⟩ | ⟨c3, hC⟩⟩
        · rw [if_neg (fun z => by have := (tk_semi hpN).mp z; rw [hw] at this; cases this), m_read0 hpN, if_neg c1]
          exact RD_no ⟨_, _, _, _, _, _, rfl⟩
        · rw [if_pos ((tk_semi hpN).mpr hw), if_pos (show (8 : Int32) ≤ nI (l + 1) by rw [show l + 1 = 8 by omega]; decide), m_read0 hpN, if_neg c1]
          exact RD_no ⟨_, _, _, _, _, _, rfl⟩
        · obtain ⟨m, rfl⟩ : ∃ j, m = j + 1 := ⟨m - 1, by omega⟩
          rw [if_pos ((tk_semi hpN).mpr hw), if_neg (n8 (by omega))]
          exact ih m (l + 1) _ _ _ A1 _ R hC (by omega) (by omega) he2.2.1 hok ⟨_, _, _, _, _, rfl⟩
theorem m_isRead {w : Wd} {T : Nat → Nat} {N : Nat} (h : hTm w T N) : RD w (rd0 T N) (f_X10_isRead w) := by
  unfold f_X10_isRead
  have e0 : wS (wS w 33 17 0) 33 23 0 = mR w (nI 0) (w.1 33 18) (w.1 33 20) (w.1 33 21) (w.1 33 22) (nI 0) (w.1 45) w.2 := by
    apply Prod.ext
    · funext a
      by_cases h3 : a = 33
      · subst h3
        rw [mR_33, wS_d, wA_s, wS_d, wA_s]
        funext j
        unfold upd m33
        by_cases h23 : j = 23
        · subst h23; rfl
        · by_cases h17 : j = 17
          · subst h17; rfl
          · by_cases h18 : j = 18
            · subst h18; rfl
            · by_cases h20 : j = 20
              · subst h20; rfl
              · by_cases h21 : j = 21
                · subst h21; rfl
                · by_cases h22 : j = 22
                  · subst h22; rfl
                  · rw [if_neg h23, if_neg h17, if_neg h17, if_neg h18, if_neg h20, if_neg h21, if_neg h22, if_neg h23]
      · rw [wS_d, wA_n _ _ h3, wS_d, wA_n _ _ h3]
        by_cases h4 : a = 45
        · subst h4; rw [mR_45]
        · rw [mR_n h3 h4]
    · rfl
  rw [e0]
  exact m_read h fu 7 0 0 (fun _ => 0) (fun _ _ => 0) (w.1 45) _ (rd0 T N) (rd0_d T N) (by decide) (by decide) (Nat.zero_le _) (fun l hl => by omega) ⟨_, _, _, _, _, rfl⟩
/-- the text of a world -/
theorem Rel.text {w : Wd} (h : Rel w) : ∃ T N, hTx w T N ∧ hTm w T N := by
  obtain ⟨he, -, -, -, hn⟩ := id h
  obtain ⟨L, -, hL200, hL⟩ := hn.2.2.2.2.2.1
  have hb := hn.2.2.2.2.2.2.1
  refine ⟨fun j => (hb j).choose, L, ⟨hL200, fun j _ => ?_, hL⟩, hL200, fun j _ => ?_, by rw [he.2.2.2.2.2.1, hL]⟩
  · have := (hb j).choose_spec
    exact ⟨this.2.2, this.2.1⟩
  · have := (hb j).choose_spec
    exact ⟨by rw [he.2.2.2.2.2.2.2.1]; exact this.2.2, this.2.1⟩
theorem hTm.sim {w v : Wd} {T : Nat → Nat} {N : Nat} (h : hTm w T N) (s : sim w v) : hTm v T N :=
  ⟨h.1, fun j hj => ⟨by rw [s 44 j rfl]; exact (h.2.1 j hj).1, (h.2.1 j hj).2⟩, by rw [s 33 15 rfl]; exact h.2.2⟩
theorem op_fault {w : Wd} (h : Rel w) : Agree f_X9_fault f_X10_fault w := by
  obtain ⟨T, N, hx, hm⟩ := h.text
  obtain ⟨L', b', e', A', e1, -⟩ := e_firstFault hx
  obtain ⟨R, hR⟩ : ∃ R, rd0 T N = R := ⟨_, rfl⟩
  rw [hR] at e1
  refine Agree.ask (a := oI R.1) h ⟨cR w L' b' e' A', ?_, cR_sim w L' b' e' A'⟩ (fun v hv s => ?_)
  · unfold f_X9_fault
    rw [e1]; rfl
  · have hd := m_isRead (hm.sim s)
    rw [hR] at hd
    obtain ⟨p, t, d, n, f, r, A, k, e2, q1, q2⟩ := hd
    unfold f_X10_fault
    rw [e2, Option.bind_some]
    dsimp only
    cases hr : R.1 with
    | none =>
      rw [if_neg (show ¬ b2i (none : Option Nat).isNone = 0 by decide)]
      exact ⟨_, rfl, mR_sim⟩
    | some b =>
      rw [if_pos (show b2i (some b).isNone = 0 from rfl), mR_22, q1 b hr]
      exact ⟨_, rfl, mR_sim⟩
