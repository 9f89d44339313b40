/-! the reference's reading of all lines; fault -/
theorem m_read0 {w : Wd} {T : Nat → Nat} {N p : Nat} {d n f r : Int32} {A : Nat → Int32} (hp : p ≤ N) (m : Nat) : f_X10_isRead_12 (m + 1) 0 (mR w (nI (tE T N p)) (nI (tB T N p)) d n f r A (tkV T N (tB T N p) (tE T N p))) = if tB T N p = N then some (1, mR w (nI (tE T N p)) (nI (tB T N p)) d n f r A (tkV T N (tB T N p) (tE T N p))) else some (0, mR w (nI (tE T N p)) (nI (tB T N p)) d n (nI (tB T N p)) r A (tkV T N (tB T N p) (tE T N p))) := by
  rw [f_X10_isRead_12, if_pos rfl, mR_2]
  by_cases c : tB T N p = N
  · rw [if_pos ((tk_end hp).mpr c), if_pos c]
  · rw [if_neg (fun z => c ((tk_end hp).mp z)), if_neg c]
    unfold f_X10_fails
    rw [mR_18, mR_s22]
    rfl
/-- what the reference's reading answers -/
def RD (w : Wd) (R : Option Nat × Nat × (Nat → Nat) × (Nat → Nat → Nat)) (o : Option (Int32 × Wd)) : Prop :=
  ∃ p t d n f r A k, o = some (b2i R.1.isNone, mR w p t d n f r A k) ∧ (∀ b, R.1 = some b → f = nI b) ∧ (R.1 = none → r = nI R.2.1 ∧ rwOK A R.2.1 R.2.2.1 R.2.2.2)
theorem RD_no {w : Wd} {b l : Nat} {r : Int32} {K : Nat → Nat} {W : Nat → Nat → Nat} {v : Wd} (h : MF w v b r) : RD w (some b, l, K, W) (some (0, v)) := by
  obtain ⟨p, t, d, n, A, k, rfl⟩ := h
  exact ⟨p, t, d, n, nI b, r, A, k, rfl, fun c e => by cases e; rfl, fun z => by cases z⟩
theorem RD_yes {w : Wd} {l : Nat} {K : Nat → Nat} {W : Nat → Nat → Nat} {p t d n f : Int32} {A : Nat → Int32} {k : Int64} (h : rwOK A l K W) : RD w (none, l, K, W) (some (1, mR w p t d n f (nI l) A k)) :=
  ⟨p, t, d, n, f, nI l, A, k, rfl, fun c e => by cases e, fun _ => ⟨rfl, h⟩⟩
theorem m_read {w : Wd} {T : Nat → Nat} {N : Nat} (h : hTm w T N) : ∀ (n m l p : Nat) (K : Nat → Nat) (W : Nat → Nat → Nat) (A : Nat → Int32) (v : Wd), l + (m + 1) = 8 → m + 3 < n → p ≤ N → rwOK A l K W → MS w v p (nI l) A → RD w (rdF T N (m + 1) l p K W) (f_X10_isRead_12 n 1 v) := by
  have hN := h.1
  intro n
  induction n with
  | zero => intro m l p K W A v _ h; omega
  | succ n ih =>
    intro m l p K W A v hlm hn hp hA hv
    have hl8 : l < 8 := by omega
    have e23 : v.1 33 23 = nI l := by obtain ⟨t, d, n, f, k, rfl⟩ := hv; exact mR_23
    obtain ⟨l1, l2⟩ := m_isLine h hp (q := 11 * l) (by omega) hv
    rw [f_X10_isRead_12, if_neg i10, e23, show (11 : Int32) * nI l = nI (11 * l) from pk_mul 11 l, rdF]
    by_cases hk : lnK T N p < 7
    · obtain ⟨v1, e1, q1, q2⟩ := l1 hk
      rw [if_pos hk, e1, Option.bind_some]
      dsimp only
      cases hg : (lnG T N p).1 with
      | false =>
        rw [if_pos bz, if_neg (show ¬ false = true by decide)]
        exact RD_no (q2 hg)
      | true =>
        obtain ⟨A1, s1, r1, r2⟩ := q1 hg
        have hpN : (lnG T N p).2.1 ≤ N := lnR_b _ _ _ _ _ (tE_b T hp).2.1
        have hb2 := tB_b T hpN
        have he2 := tE_b T hpN
        have hok := rwOK_s hA hk (A' := A1) (V := (lnG T N p).2.2) (fun i hi => by rw [r2 i (by omega), pk_un (by omega)]) (by rw [r2 _ (Nat.le_refl _), pk_us]) r1
        obtain ⟨t, d, n1, f, k, rfl⟩ := s1
        rw [if_neg bnz, if_pos rfl, mR_23, p1, mR_s23]
        obtain ⟨d', n', e2, -⟩ := m_next h hpN (t := t) (d := d) (n := n1) (f := f) (r := nI (l + 1)) (A := A1) (k := k)
        rw [e2, Option.bind_some, mR_2, mR_23]
        obtain ⟨n, rfl⟩ : ∃ j, n = j + 1 := ⟨n - 1, by omega⟩
        cases hw : isW T (tB T N (lnG T N p).2.1) (tE T N (lnG T N p).2.1) 0 with
        | false =>
          rw [if_neg (fun z => by have := (tk_semi hpN).mp z; rw [hw] at this; cases this), m_read0 hpN]
          by_cases c1 : tB T N (lnG T N p).2.1 = N
          · rw [if_pos c1, if_pos c1]
            exact RD_yes hok
          · rw [if_neg c1, if_neg c1, if_neg (show ¬ false = true by decide)]
            exact RD_no ⟨_, _, _, _, _, _, rfl⟩
        | true =>
          have c1 : ¬ tB T N (lnG T N p).2.1 = N := fun z => by
            have := (isW_iff.mp hw).1
            rw [show wLn 0 = 1 from rfl] at this
            omega
          rw [if_pos ((tk_semi hpN).mpr hw), if_neg c1, if_pos rfl]
          cases m with
          | zero =>
            rw [if_pos (show (8 : Int32) ≤ nI (l + 1) by rw [show l + 1 = 8 by omega]; decide), m_read0 hpN, if_neg c1, if_pos rfl]
            exact RD_no ⟨_, _, _, _, _, _, rfl⟩
          | succ m =>
            rw [if_neg (n8 (by omega)), if_neg (show ¬ m + 1 = 0 by omega)]
            exact ih m (l + 1) _ _ _ A1 _ (by omega) (by omega) he2.2.1 hok ⟨_, _, _, _, _, rfl⟩
    · obtain ⟨v1, e1, f1⟩ := l2 hk
      rw [if_neg hk, e1, Option.bind_some]
      dsimp only
      rw [if_pos rfl]
      exact RD_no f1
theorem m_isRead {w : Wd} {T : Nat → Nat} {N : Nat} (h : hTm w T N) : RD w (rd0 T N) (f_X10_isRead w) := by
  unfold f_X10_isRead
  have e0 : wS (wS w 33 17 0) 33 23 0 = mR w 0 (w.1 33 18) (w.1 33 20) (w.1 33 21) (w.1 33 22) 0 (w.1 45) w.2 := by
    rw [wS_d, wS_d, wA_s, wA_wA]
    unfold mR w2
    have : wA (wA w 33 (m33 w 0 (w.1 33 18) (w.1 33 20) (w.1 33 21) (w.1 33 22) 0)) 45 (w.1 45) = wA w 33 (m33 w 0 (w.1 33 18) (w.1 33 20) (w.1 33 21) (w.1 33 22) 0) := by
      have := wA_self (wA w 33 (m33 w 0 (w.1 33 18) (w.1 33 20) (w.1 33 21) (w.1 33 22) 0)) 45
      rw [wA_n _ _ (by decide)] at this
      exact this
    rw [this]
    show wA w 33 _ = wA w 33 _
    congr 1
    funext j
    unfold upd m33
    by_cases h23 : j = 23
    · subst h23; rfl
    · by_cases h17 : j = 17
      · subst h17; rfl
      · by_cases h18 : j = 18
        · subst h18; rfl
        · by_cases h20 : j = 20
          · subst h20; rfl
          · by_cases h21 : j = 21
            · subst h21; rfl
            · by_cases h22 : j = 22
              · subst h22; rfl
              · simp only [h23, h17, h18, h20, h21, h22, if_false]
  rw [e0]
  exact m_read h fu 7 0 0 _ _ (w.1 45) _ (by decide) (by decide) (Nat.zero_le _) (fun l hl => by omega) ⟨_, _, _, _, _, rfl⟩
/-- the text of a world -/
theorem Rel.text {w : Wd} (h : Rel w) : ∃ T N, hTx w T N ∧ hTm w T N := by
  obtain ⟨he, -, -, -, hn⟩ := id h
  obtain ⟨L, -, hL200, hL⟩ := hn.2.2.2.2.2.1
  have hb := hn.2.2.2.2.2.2.1
  refine ⟨fun j => (hb j).choose, L, ⟨hL200, fun j _ => ?_, hL⟩, hL200, fun j _ => ?_, by rw [he.2.2.2.2.2.1, hL]⟩
  · have := (hb j).choose_spec
    exact ⟨this.2.2, this.2.1⟩
  · have := (hb j).choose_spec
    exact ⟨by rw [he.2.2.2.2.2.2.2.1]; exact this.2.2, this.2.1⟩
theorem hTm.sim {w v : Wd} {T : Nat → Nat} {N : Nat} (h : hTm w T N) (s : sim w v) : hTm v T N :=
  ⟨h.1, fun j hj => ⟨by rw [s 44 j rfl]; exact (h.2.1 j hj).1, (h.2.1 j hj).2⟩, by rw [s 33 15 rfl]; exact h.2.2⟩
theorem op_fault {w : Wd} (h : Rel w) : Agree f_X9_fault f_X10_fault w := by
  obtain ⟨T, N, hx, hm⟩ := h.text
  obtain ⟨L', b', e', A', e1, -⟩ := e_firstFault hx
  refine Agree.ask (a := oI (rd0 T N).1) h ⟨cR w L' b' e' A', ?_, cR_sim w L' b' e' A'⟩ (fun v hv s => ?_)
  · unfold f_X9_fault
    rw [e1]; rfl
  · obtain ⟨p, t, d, n, f, r, A, k, e2, q1, q2⟩ := m_isRead (hm.sim s)
    unfold f_X10_fault
    rw [e2, Option.bind_some]
    dsimp only
    cases hr : (rd0 T N).1 with
    | none =>
      rw [if_neg (by decide)]
      exact ⟨_, rfl, mR_sim⟩
    | some b =>
      rw [if_pos rfl, mR_22, q1 b hr]
      exact ⟨_, rfl, mR_sim⟩
