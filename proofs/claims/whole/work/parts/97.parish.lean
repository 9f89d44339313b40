/-! a line told to both keeps them one; parish -/
def mx (u v : Wd) : Wd := (fun k => if k < 33 then u.1 k else v.1 k, 0)
theorem mx_l (u v : Wd) {k : Nat} (h : k < 33) : (mx u v).1 k = u.1 k := by
  show (if k < 33 then u.1 k else v.1 k) = u.1 k
  exact if_pos h
theorem mx_r (u v : Wd) {k : Nat} (h : ¬ k < 33) : (mx u v).1 k = v.1 k := by
  show (if k < 33 then u.1 k else v.1 k) = v.1 k
  exact if_neg h
theorem mx_X {E : Nat → Nat → Bool} {u u' v v' : Wd} (h1 : simX E u u') (h2 : simX E v v') : simX E (mx u v) (mx u' v') := by
  intro k j e1 e2
  by_cases h : k < 33
  · rw [mx_l _ _ h, mx_l _ _ h]; exact h1 k j e1 e2
  · rw [mx_r _ _ h, mx_r _ _ h]; exact h2 k j e1 e2
theorem bt_oneD {s : Int32} {j i : Nat} (hj : j < 32) (h : bt (s ||| jshl 1 (nI j)) i = true) : bt s i = true ∨ i = j := by
  rcases Nat.lt_or_ge i 32 with hi | hi
  · rw [bt_one s hj hi, Bool.or_eq_true, decide_eq_true_eq] at h
    exact h
  · exfalso
    have : bt (s ||| jshl 1 (nI j)) i = false := BitVec.getLsbD_of_ge _ _ hi
    rw [this] at h; cases h
theorem bt_oneN {s : Int32} {j i : Nat} (hj : j < 32) (hi : i < 32) (hn : i ≠ j) : bt (s ||| jshl 1 (nI j)) i = bt s i := by
  rw [bt_one s hj hi, decide_eq_false hn, Bool.or_false]
theorem bt_oneH {s : Int32} {j : Nat} (hj : j < 14) (h : ∀ i, 14 ≤ i → bt s i = false) (i : Nat) (hi : 14 ≤ i) : bt (s ||| jshl 1 (nI j)) i = false := by
  cases hb : bt (s ||| jshl 1 (nI j)) i with
  | false => rfl
  | true =>
    rcases bt_oneD (by omega) hb with z | z
    · rw [h i hi] at z; cases z
    · omega
section
variable {u v : Wd} {V : Nat → Nat}
theorem gCl_0 : gCl 0 V u = wA (wA (wA u 6 (fb_put (u.1 6) (tV V) (9 * V 0) 9)) 7 (xF (u.1 7) V)) 5 (upd (u.1 5) 0 (u.1 5 0 ||| jshl 1 (nI (V 0)))) := rfl
theorem gCl_1 : gCl 1 V u = wA (wA u 7 (fb_put (u.1 7) (tV V) (4 * V 0) 4)) 5 (upd (u.1 5) 0 (u.1 5 0 ||| jshl 1 (nI (V 0)))) := rfl
theorem gCl_2 : gCl 2 V u = wA (wA u 8 (upd (u.1 8) (V 0) (nI (V 1)))) 9 (upd (u.1 9) (V 0) (nI (V 2))) := rfl
theorem gCl_3 : gCl 3 V u = if bt (u.1 10 (V 0)) (V 1) = true then u else if 24 ≤ u.1 5 6 then u else wA (wA u 10 (upd (u.1 10) (V 0) (u.1 10 (V 0) ||| jshl 1 (nI (V 1))))) 5 (upd (u.1 5) 6 (u.1 5 6 + 1)) := rfl
theorem gCl_4 : gCl 4 V u = wA (wA u 11 (fb_put (u.1 11) (tV V) (4 * V 0) 4)) 5 (upd (u.1 5) 7 (u.1 5 7 ||| jshl 1 (nI (V 0)))) := rfl
theorem gCl_5 : gCl 5 V u = wA u 5 (upd (u.1 5) 9 (nI (V 0))) := rfl
theorem gCl_6 : gCl 6 V u = wA u 5 (upd (u.1 5) 10 (nI (V 0))) := rfl
theorem gM_0 : gM 0 V v = wA (wA (wA (wA (wA (wA v 33 (upd (v.1 33) 0 (v.1 33 0 ||| jshl 1 (nI (V 0))))) 34 (fb_put (v.1 34) (tV3 V) (7 * V 0) 7)) 35 (upd (v.1 35) (V 0) (nI (V 1)))) 36 (upd (v.1 36) (V 0) (nI (V 2)))) 37 (upd (v.1 37) (V 0) (if V 3 = 0 then nI (V 6) else nI (V 4) * nI (V 5)))) 38 (upd (v.1 38) (V 0) (if V 3 = 0 then nI (V 4) * nI (V 5) else nI (V 6))) := rfl
theorem gM_1 : gM 1 V v = wA (wA (wA (wA (wA v 33 (upd (v.1 33) 0 (v.1 33 0 ||| jshl 1 (nI (V 0))))) 35 (upd (v.1 35) (V 0) (nI (V 1)))) 36 (upd (v.1 36) (V 0) (nI (V 2)))) 37 (upd (v.1 37) (V 0) (nI (V 3)))) 38 (upd (v.1 38) (V 0) (nI (V 4))) := rfl
theorem gM_2 : gM 2 V v = wA (wA v 39 (upd (v.1 39) (V 0) (nI (V 1)))) 40 (upd (v.1 40) (V 0) (nI (V 2))) := rfl
theorem gM_3 : gM 3 V v = if bt (v.1 41 (V 0)) (V 1) = true then v else if 24 ≤ v.1 33 8 then v else wA (wA v 41 (upd (v.1 41) (V 0) (v.1 41 (V 0) ||| jshl 1 (nI (V 1))))) 33 (upd (v.1 33) 8 (v.1 33 8 + 1)) := rfl
theorem gM_4 : gM 4 V v = wA (wA v 33 (upd (v.1 33) 11 (v.1 33 11 ||| jshl 1 (nI (V 0))))) 43 (fb_put (v.1 43) (tV V) (4 * V 0) 4) := rfl
theorem gM_5 : gM 5 V v = wA v 33 (upd (v.1 33) 13 (nI (V 0))) := rfl
theorem gM_6 : gM 6 V v = wA v 33 (upd (v.1 33) 14 (nI (V 0))) := rfl
/-- slack, gap -/
theorem rl_5 (h : Rel (mx u v)) (hv : vOK 5 V) : Rel (mx (gCl 5 V u) (gM 5 V v)) := by
  have b0 : 0 ≤ V 0 ∧ V 0 ≤ 99 := hv.2.1 0 (by decide)
  rw [gCl_5, gM_5]
  refine h.sl (mx_X ((simX.rf _ u).st _ ?_) ((simX.rf _ v).st _ ?_)) ?_ ?_
  · intro j _ e
    simp only [E_sl, decide_eq_false_iff_not] at e
    exact pk_un e
  · intro j _ e
    simp only [E_sl, decide_eq_false_iff_not] at e
    exact pk_un e
  · show upd (v.1 33) 13 (nI (V 0)) 13 = upd (u.1 5) 9 (nI (V 0)) 9
    rw [pk_us, pk_us]
  · show nb (upd (u.1 5) 9 (nI (V 0)) 9) 0 99
    rw [pk_us]
    exact ⟨V 0, Nat.zero_le _, b0.2, rfl⟩
theorem rl_6 (h : Rel (mx u v)) (hv : vOK 6 V) : Rel (mx (gCl 6 V u) (gM 6 V v)) := by
  have b0 : 0 ≤ V 0 ∧ V 0 ≤ 99 := hv.2.1 0 (by decide)
  rw [gCl_6, gM_6]
  refine h.ga (mx_X ((simX.rf _ u).st _ ?_) ((simX.rf _ v).st _ ?_)) ?_ ?_
  · intro j _ e
    simp only [E_ga, decide_eq_false_iff_not] at e
    exact pk_un e
  · intro j _ e
    simp only [E_ga, decide_eq_false_iff_not] at e
    exact pk_un e
  · show upd (v.1 33) 14 (nI (V 0)) 14 = upd (u.1 5) 10 (nI (V 0)) 10
    rw [pk_us, pk_us]
  · show nb (upd (u.1 5) 10 (nI (V 0)) 10) 0 99
    rw [pk_us]
    exact ⟨V 0, Nat.zero_le _, b0.2, rfl⟩
/-- years -/
theorem rl_2 (h : Rel (mx u v)) (hv : vOK 2 V) : Rel (mx (gCl 2 V u) (gM 2 V v)) := by
  have b1 : 0 ≤ V 1 ∧ V 1 ≤ 2000 := hv.2.1 1 (by decide)
  have b2 : 0 ≤ V 2 ∧ V 2 ≤ 2000 := hv.2.1 2 (by decide)
  obtain ⟨⟨h1, h2, h3, h4, h5, h6, h7, h8, h9, h10, h11, h12, h13, h14, h15, h16, h17, h18⟩, hb1, hb2, hb3, n0, n1, n2, n3, n4, n5, n6, n7, n8, n9, n10, n11, n12, n13⟩ := id h
  rw [gCl_2, gM_2]
  refine h.yr (mx_X (((simX.rf _ u).all _ (fun _ => rfl)).all _ (fun _ => rfl)) (((simX.rf _ v).all _ (fun _ => rfl)).all _ (fun _ => rfl))) ?_ ?_ ?_
  · show upd (v.1 39) (V 0) (nI (V 1)) = upd (u.1 8) (V 0) (nI (V 1))
    rw [show v.1 39 = u.1 8 from h9]
  · show upd (v.1 40) (V 0) (nI (V 2)) = upd (u.1 9) (V 0) (nI (V 2))
    rw [show v.1 40 = u.1 9 from h10]
  · intro t ht
    show nb (upd (u.1 8) (V 0) (nI (V 1)) t) 0 2000 ∧ nb (upd (u.1 9) (V 0) (nI (V 2)) t) 0 2000
    by_cases c : t = V 0
    · rw [c, pk_us, pk_us]
      exact ⟨⟨V 1, Nat.zero_le _, b1.2, rfl⟩, V 2, Nat.zero_le _, b2.2, rfl⟩
    · rw [pk_un c, pk_un c]
      exact n7 t ht
/-- pairs -/
theorem rl_3 (h : Rel (mx u v)) (hv : vOK 3 V) : Rel (mx (gCl 3 V u) (gM 3 V v)) := by
  have b0 : 0 ≤ V 0 ∧ V 0 ≤ 13 := hv.2.1 0 (by decide)
  have b1 : 0 ≤ V 1 ∧ V 1 ≤ 13 := hv.2.1 1 (by decide)
  have hne : V 0 ≠ V 1 := hv.2.2 rfl
  obtain ⟨⟨h1, h2, h3, h4, h5, h6, h7, h8, h9, h10, h11, h12, h13, h14, h15, h16, h17, h18⟩, hb1, hb2, hb3, n0, n1, n2, n3, n4, n5, n6, n7, n8, n9, n10, n11, n12, n13⟩ := id h
  rw [gCl_3, gM_3, show v.1 41 = u.1 10 from h11, show v.1 33 8 = u.1 5 6 from h2]
  by_cases hb : bt (u.1 10 (V 0)) (V 1) = true
  · rw [if_pos hb, if_pos hb]; exact h
  · rw [if_neg hb, if_neg hb]
    by_cases hc : 24 ≤ u.1 5 6
    · rw [if_pos hc, if_pos hc]; exact h
    · rw [if_neg hc, if_neg hc]
      obtain ⟨n, -, hn, en⟩ : nb (u.1 5 6) 0 24 := n1
      have hn24 : n < 24 := by
        rcases Nat.lt_or_ge n 24 with z | z
        · exact z
        · exact absurd (show (24 : Int32) ≤ u.1 5 6 by rw [en]; exact nI_le (a := 24) z (by omega)) hc
      refine h.pr (mx_X (((simX.rf _ u).all _ (fun _ => rfl)).st _ ?_) (((simX.rf _ v).all _ (fun _ => rfl)).st _ ?_)) ?_ ?_ ?_ ?_
      · intro j _ e
        simp only [E_pr, decide_eq_false_iff_not] at e
        rw [pk_un e]; rfl
      · intro j _ e
        simp only [E_pr, decide_eq_false_iff_not] at e
        rw [pk_un e]; rfl
      · show upd (v.1 33) 8 (u.1 5 6 + 1) 8 = upd (u.1 5) 6 (u.1 5 6 + 1) 6
        rw [pk_us, pk_us]
      · rfl
      · show nb (upd (u.1 5) 6 (u.1 5 6 + 1) 6) 0 24
        rw [pk_us, en, p1]
        exact ⟨n + 1, by omega, by omega, rfl⟩
      · intro t ht i
        show bt (upd (u.1 10) (V 0) (u.1 10 (V 0) ||| jshl 1 (nI (V 1))) t) i = true → i < 14 ∧ i ≠ t
        intro hbt
        by_cases c : t = V 0
        · rw [c, pk_us] at hbt
          rw [c]
          rcases bt_oneD (by omega) hbt with z | z
          · exact n8 (V 0) (by omega) i z
          · rw [z]
            exact ⟨by omega, fun q => hne q.symm⟩
        · rw [pk_un c] at hbt
          exact n8 t ht i hbt
/-- four numbers put in a row -/
theorem fb_4 (f : Nat → Int32) (a : Nat) : fb_put f (tV V) a 4 a = nI (V 1) ∧ fb_put f (tV V) a 4 (a + 1) = nI (V 2) ∧ fb_put f (tV V) a 4 (a + 2) = nI (V 3) ∧ fb_put f (tV V) a 4 (a + 3) = nI (V 4) := by
  refine ⟨?_, ?_, ?_, ?_⟩
  · rw [fb_put_in (by omega) (by omega), Nat.sub_self]; rfl
  · rw [fb_put_in (by omega) (by omega), Nat.add_sub_cancel_left]; rfl
  · rw [fb_put_in (by omega) (by omega), Nat.add_sub_cancel_left]; rfl
  · rw [fb_put_in (by omega) (by omega), Nat.add_sub_cancel_left]; rfl
/-- teams -/
theorem rl_4 (h : Rel (mx u v)) (hv : vOK 4 V) : Rel (mx (gCl 4 V u) (gM 4 V v)) := by
  have b0 : 1 ≤ V 0 ∧ V 0 ≤ 12 := hv.2.1 0 (by decide)
  have b1 : 0 ≤ V 1 ∧ V 1 ≤ 40 := hv.2.1 1 (by decide)
  have b2 : 0 ≤ V 2 ∧ V 2 ≤ 40 := hv.2.1 2 (by decide)
  have b3 : 0 ≤ V 3 ∧ V 3 ≤ 2000 := hv.2.1 3 (by decide)
  have b4 : 0 ≤ V 4 ∧ V 4 ≤ 2000 := hv.2.1 4 (by decide)
  obtain ⟨⟨h1, h2, h3, h4, h5, h6, h7, h8, h9, h10, h11, h12, h13, h14, h15, h16, h17, h18⟩, hb1, hb2, hb3, n0, n1, n2, n3, n4, n5, n6, n7, n8, n9, n10, n11, n12, n13⟩ := id h
  rw [gCl_4, gM_4, show v.1 43 = u.1 11 from h12, show v.1 33 11 = u.1 5 7 from h3]
  refine h.tm (mx_X (((simX.rf _ u).all _ (fun _ => rfl)).st _ ?_) (((simX.rf _ v).st _ ?_).all _ (fun _ => rfl))) ?_ ?_ ?_ ?_
  · intro j _ e
    simp only [E_tm, decide_eq_false_iff_not] at e
    rw [pk_un e]; rfl
  · intro j _ e
    simp only [E_tm, decide_eq_false_iff_not] at e
    exact pk_un e
  · show upd (v.1 33) 11 (u.1 5 7 ||| jshl 1 (nI (V 0))) 11 = upd (u.1 5) 7 (u.1 5 7 ||| jshl 1 (nI (V 0))) 7
    rw [pk_us, pk_us]
  · rfl
  · intro i
    show bt (upd (u.1 5) 7 (u.1 5 7 ||| jshl 1 (nI (V 0))) 7) i = true → 1 ≤ i ∧ i ≤ 12
    rw [pk_us]
    intro hb
    rcases bt_oneD (by omega) hb with z | z
    · exact n2 i z
    · rw [z]; exact b0
  · intro k hk
    show bt (upd (u.1 5) 7 (u.1 5 7 ||| jshl 1 (nI (V 0))) 7) k = true → nb (fb_put (u.1 11) (tV V) (4 * V 0) 4 (4 * k)) 0 40 ∧ nb (fb_put (u.1 11) (tV V) (4 * V 0) 4 (4 * k + 1)) 0 40 ∧ nb (fb_put (u.1 11) (tV V) (4 * V 0) 4 (4 * k + 2)) 0 2000 ∧ nb (fb_put (u.1 11) (tV V) (4 * V 0) 4 (4 * k + 3)) 0 2000
    rw [pk_us]
    intro hb
    by_cases c : k = V 0
    · obtain ⟨f0, f1, f2, f3⟩ := fb_4 (V := V) (u.1 11) (4 * V 0)
      rw [c, f0, f1, f2, f3]
      exact ⟨⟨V 1, Nat.zero_le _, b1.2, rfl⟩, ⟨V 2, Nat.zero_le _, b2.2, rfl⟩, ⟨V 3, Nat.zero_le _, b3.2, rfl⟩, V 4, Nat.zero_le _, b4.2, rfl⟩
    · rw [fb_put_out (by omega), fb_put_out (by omega), fb_put_out (by omega), fb_put_out (by omega)]
      rcases bt_oneD (by omega) hb with z | z
      · exact n9 k hk z
      · exact absurd z c
/-- a bundle's numbers, in the two rows -/
def nBn (f g : Nat → Int32) (b : Nat) : Prop :=
  f (9 * b) = g (4 * b) ∧ f (9 * b + 1) = g (4 * b + 1) ∧ nb (f (9 * b)) 0 999 ∧ nb (f (9 * b + 1)) 0 999 ∧ nb (f (9 * b + 2)) 0 1 ∧ nb (f (9 * b + 3)) 1 30 ∧ nb (f (9 * b + 4)) 1 20 ∧ nb (f (9 * b + 5)) 1 500 ∧ nb (f (9 * b + 6)) 0 40 ∧ nb (f (9 * b + 7)) 0 1 ∧ nb (f (9 * b + 8)) 0 60 ∧
  (f (9 * b + 2) = 0 → g (4 * b + 2) = f (9 * b + 5) ∧ g (4 * b + 3) = f (9 * b + 3) * f (9 * b + 4)) ∧ (f (9 * b + 2) = 1 → g (4 * b + 3) = f (9 * b + 5) ∧ g (4 * b + 2) = f (9 * b + 3) * f (9 * b + 4))
theorem RBn_i (w : Wd) : RBn w ↔ ∀ b, b < 8 → bt (w.1 5 0) b = true → nBn (w.1 6) (w.1 7) b := Iff.rfl
theorem nBn_c {f g f' g' : Nat → Int32} {b : Nat} (hf : ∀ i, i < 9 → f' (9 * b + i) = f (9 * b + i)) (hg : ∀ i, i < 4 → g' (4 * b + i) = g (4 * b + i)) (h : nBn f g b) : nBn f' g' b := by
  unfold nBn at *
  rw [show f' (9 * b) = f (9 * b) from hf 0 (by decide), hf 1 (by decide), hf 2 (by decide), hf 3 (by decide), hf 4 (by decide), hf 5 (by decide), hf 6 (by decide), hf 7 (by decide), hf 8 (by decide), show g' (4 * b) = g (4 * b) from hg 0 (by decide), hg 1 (by decide), hg 2 (by decide), hg 3 (by decide)]
  exact h
/-- marks -/
theorem rl_1 (h : Rel (mx u v)) (hv : vOK 1 V) : Rel (mx (gCl 1 V u) (gM 1 V v)) := by
  have b0 : 8 ≤ V 0 ∧ V 0 ≤ 13 := hv.2.1 0 (by decide)
  have b1 : 0 ≤ V 1 ∧ V 1 ≤ 999 := hv.2.1 1 (by decide)
  have b2 : 0 ≤ V 2 ∧ V 2 ≤ 999 := hv.2.1 2 (by decide)
  have b3 : 1 ≤ V 3 ∧ V 3 ≤ 999 := hv.2.1 3 (by decide)
  have b4 : 1 ≤ V 4 ∧ V 4 ≤ 999 := hv.2.1 4 (by decide)
  obtain ⟨⟨h1, h2, h3, h4, h5, h6, h7, h8, h9, h10, h11, h12, h13, h14, h15, h16, h17, h18⟩, hb1, hb2, hb3, n0, n1, n2, n3, n4, n5, n6, n7, n8, n9, n10, n11, n12, n13⟩ := id h
  obtain ⟨f0, f1, f2, f3⟩ := fb_4 (V := V) (u.1 7) (4 * V 0)
  rw [gCl_1, gM_1, show v.1 33 0 = u.1 5 0 from h1]
  refine h.bx (mx_X (((simX.rf _ u).all _ (fun _ => rfl)).st _ ?_) ((((((simX.rf _ v).st _ ?_).all _ (fun _ => rfl)).all _ (fun _ => rfl)).all _ (fun _ => rfl)).all _ (fun _ => rfl))) ?_ ?_ ⟨?_, ?_⟩ ((RBn_i _).mpr ?_) ?_
  · intro j _ e
    simp only [E_bx, decide_eq_false_iff_not] at e
    rw [pk_un e]; rfl
  · intro j _ e
    simp only [E_bx, decide_eq_false_iff_not] at e
    exact pk_un e
  · show upd (v.1 33) 0 (u.1 5 0 ||| jshl 1 (nI (V 0))) 0 = upd (u.1 5) 0 (u.1 5 0 ||| jshl 1 (nI (V 0))) 0
    rw [pk_us, pk_us]
  · intro i hi
    show bt (upd (u.1 5) 0 (u.1 5 0 ||| jshl 1 (nI (V 0))) 0) i = false
    rw [pk_us]
    exact bt_oneH (by omega) n0 i hi
  · intro t ht
    show upd (v.1 35) (V 0) (nI (V 1)) t = fb_put (u.1 7) (tV V) (4 * V 0) 4 (4 * t) ∧ upd (v.1 36) (V 0) (nI (V 2)) t = fb_put (u.1 7) (tV V) (4 * V 0) 4 (4 * t + 1) ∧ upd (v.1 37) (V 0) (nI (V 3)) t = fb_put (u.1 7) (tV V) (4 * V 0) 4 (4 * t + 2) ∧ upd (v.1 38) (V 0) (nI (V 4)) t = fb_put (u.1 7) (tV V) (4 * V 0) 4 (4 * t + 3)
    by_cases c : t = V 0
    · rw [c, pk_us, pk_us, pk_us, pk_us, f0, f1, f2, f3]
      exact ⟨rfl, rfl, rfl, rfl⟩
    · rw [pk_un c, pk_un c, pk_un c, pk_un c, fb_put_out (by omega), fb_put_out (by omega), fb_put_out (by omega), fb_put_out (by omega)]
      exact hb1.1 t ht
  · intro b hb k hk
    exact hb1.2 b hb k hk
  · intro b hb ht
    have ht : bt (upd (u.1 5) 0 (u.1 5 0 ||| jshl 1 (nI (V 0))) 0) b = true := ht
    rw [pk_us, bt_oneN (by omega) (by omega) (by omega)] at ht
    exact nBn_c (f := u.1 6) (g := u.1 7) (fun i _ => rfl) (fun i hi => by
      show fb_put (u.1 7) (tV V) (4 * V 0) 4 (4 * b + i) = u.1 7 (4 * b + i)
      exact fb_put_out (by omega)) (hb2 b hb ht)
  · intro t h8' ht hb
    have hb : bt (upd (u.1 5) 0 (u.1 5 0 ||| jshl 1 (nI (V 0))) 0) t = true := hb
    rw [pk_us] at hb
    show nb (fb_put (u.1 7) (tV V) (4 * V 0) 4 (4 * t)) 0 999 ∧ nb (fb_put (u.1 7) (tV V) (4 * V 0) 4 (4 * t + 1)) 0 999 ∧ nb (fb_put (u.1 7) (tV V) (4 * V 0) 4 (4 * t + 2)) 1 999 ∧ nb (fb_put (u.1 7) (tV V) (4 * V 0) 4 (4 * t + 3)) 1 999
    by_cases c : t = V 0
    · rw [c, f0, f1, f2, f3]
      exact ⟨⟨V 1, Nat.zero_le _, b1.2, rfl⟩, ⟨V 2, Nat.zero_le _, b2.2, rfl⟩, ⟨V 3, b3.1, b3.2, rfl⟩, V 4, b4.1, b4.2, rfl⟩
    · rw [fb_put_out (by omega), fb_put_out (by omega), fb_put_out (by omega), fb_put_out (by omega)]
      rcases bt_oneD (by omega) hb with z | z
      · exact hb3 t h8' ht z
      · exact absurd z c
/-- a bundle's box -/
theorem xF_0 (f : Nat → Int32) : xF f V (4 * V 0) = nI (V 1) := by
  unfold xF upd
  rw [if_neg (by omega), if_neg (by omega), if_neg (by omega), if_pos rfl]
theorem xF_1 (f : Nat → Int32) : xF f V (4 * V 0 + 1) = nI (V 2) := by
  unfold xF upd
  rw [if_neg (by omega), if_neg (by omega), if_pos rfl]
theorem xF_2 (f : Nat → Int32) (h : V 3 ≤ 1) : xF f V (4 * V 0 + 2) = if V 3 = 0 then nI (V 6) else nI (V 4) * nI (V 5) := by
  by_cases c : V 3 = 0
  · rw [if_pos c]
    unfold xF upd
    rw [if_neg (by omega), if_pos (by omega)]
  · rw [if_neg c]
    unfold xF upd
    rw [if_pos (by omega)]
theorem xF_3 (f : Nat → Int32) (h : V 3 ≤ 1) : xF f V (4 * V 0 + 3) = if V 3 = 0 then nI (V 4) * nI (V 5) else nI (V 6) := by
  by_cases c : V 3 = 0
  · rw [if_pos c]
    unfold xF upd
    rw [if_pos (by omega)]
  · rw [if_neg c]
    unfold xF upd
    rw [if_neg (by omega), if_pos (by omega)]
theorem xF_n (f : Nat → Int32) (h : V 3 ≤ 1) {k : Nat} (hk : k < 4 * V 0 ∨ 4 * V 0 + 4 ≤ k) : xF f V k = f k := by
  unfold xF upd
  rw [if_neg (by omega), if_neg (by omega), if_neg (by omega), if_neg (by omega)]
/-- bundles -/
theorem nBn_V (f g : Nat → Int32) (b1 : V 1 ≤ 999) (b2 : V 2 ≤ 999) (b3 : V 3 ≤ 1) (b4 : 1 ≤ V 4 ∧ V 4 ≤ 30) (b5 : 1 ≤ V 5 ∧ V 5 ≤ 20) (b6 : 1 ≤ V 6 ∧ V 6 ≤ 500) (b7 : V 7 ≤ 40) (b8 : V 8 ≤ 1) (b9 : V 9 ≤ 60) : nBn (fb_put f (tV V) (9 * V 0) 9) (xF g V) (V 0) := by
  have q : ∀ k, k < 9 → fb_put f (tV V) (9 * V 0) 9 (9 * V 0 + k) = nI (V (k + 1)) := fun k hk => by
    rw [fb_put_in (by omega) (by omega), Nat.add_sub_cancel_left]; rfl
  have q0 : fb_put f (tV V) (9 * V 0) 9 (9 * V 0) = nI (V 1) := q 0 (by decide)
  have q1 : fb_put f (tV V) (9 * V 0) 9 (9 * V 0 + 1) = nI (V 2) := q 1 (by decide)
  have q2 : fb_put f (tV V) (9 * V 0) 9 (9 * V 0 + 2) = nI (V 3) := q 2 (by decide)
  have q3 : fb_put f (tV V) (9 * V 0) 9 (9 * V 0 + 3) = nI (V 4) := q 3 (by decide)
  have q4 : fb_put f (tV V) (9 * V 0) 9 (9 * V 0 + 4) = nI (V 5) := q 4 (by decide)
  have q5 : fb_put f (tV V) (9 * V 0) 9 (9 * V 0 + 5) = nI (V 6) := q 5 (by decide)
  have q6 : fb_put f (tV V) (9 * V 0) 9 (9 * V 0 + 6) = nI (V 7) := q 6 (by decide)
  have q7 : fb_put f (tV V) (9 * V 0) 9 (9 * V 0 + 7) = nI (V 8) := q 7 (by decide)
  have q8 : fb_put f (tV V) (9 * V 0) 9 (9 * V 0 + 8) = nI (V 9) := q 8 (by decide)
  unfold nBn
  rw [q0, q1, q2, q3, q4, q5, q6, q7, q8, xF_0, xF_1, xF_2 g b3, xF_3 g b3]
  refine ⟨rfl, rfl, ⟨V 1, Nat.zero_le _, b1, rfl⟩, ⟨V 2, Nat.zero_le _, b2, rfl⟩, ⟨V 3, Nat.zero_le _, b3, rfl⟩, ⟨V 4, b4.1, b4.2, rfl⟩, ⟨V 5, b5.1, b5.2, rfl⟩, ⟨V 6, b6.1, b6.2, rfl⟩, ⟨V 7, Nat.zero_le _, b7, rfl⟩, ⟨V 8, Nat.zero_le _, b8, rfl⟩, ⟨V 9, Nat.zero_le _, b9, rfl⟩, fun z => ?_, fun z => ?_⟩
  · have c : V 3 = 0 := (nI_eq (b := 0) (by omega) (by decide)).mp z
    rw [if_pos c, if_pos c]
    exact ⟨rfl, rfl⟩
  · have c : ¬ V 3 = 0 := by
      have := (nI_eq (b := 1) (by omega) (by decide)).mp z
      omega
    rw [if_neg c, if_neg c]
    exact ⟨rfl, rfl⟩
theorem rl_0 (h : Rel (mx u v)) (hv : vOK 0 V) : Rel (mx (gCl 0 V u) (gM 0 V v)) := by
  have b0 : 0 ≤ V 0 ∧ V 0 ≤ 7 := hv.2.1 0 (by decide)
  have b1 : 0 ≤ V 1 ∧ V 1 ≤ 999 := hv.2.1 1 (by decide)
  have b2 : 0 ≤ V 2 ∧ V 2 ≤ 999 := hv.2.1 2 (by decide)
  have b3 : 0 ≤ V 3 ∧ V 3 ≤ 1 := hv.2.1 3 (by decide)
  have b4 : 1 ≤ V 4 ∧ V 4 ≤ 30 := hv.2.1 4 (by decide)
  have b5 : 1 ≤ V 5 ∧ V 5 ≤ 20 := hv.2.1 5 (by decide)
  have b6 : 1 ≤ V 6 ∧ V 6 ≤ 500 := hv.2.1 6 (by decide)
  have b7 : 0 ≤ V 7 ∧ V 7 ≤ 40 := hv.2.1 7 (by decide)
  have b8 : 0 ≤ V 8 ∧ V 8 ≤ 1 := hv.2.1 8 (by decide)
  have b9 : 0 ≤ V 9 ∧ V 9 ≤ 60 := hv.2.1 9 (by decide)
  obtain ⟨⟨h1, h2, h3, h4, h5, h6, h7, h8, h9, h10, h11, h12, h13, h14, h15, h16, h17, h18⟩, hb1, hb2, hb3, n0, n1, n2, n3, n4, n5, n6, n7, n8, n9, n10, n11, n12, n13⟩ := id h
  rw [gCl_0, gM_0, show v.1 33 0 = u.1 5 0 from h1]
  refine h.bx (mx_X ((((simX.rf _ u).all _ (fun _ => rfl)).all _ (fun _ => rfl)).st _ ?_) (((((((simX.rf _ v).st _ ?_).all _ (fun _ => rfl)).all _ (fun _ => rfl)).all _ (fun _ => rfl)).all _ (fun _ => rfl)).all _ (fun _ => rfl))) ?_ ?_ ⟨?_, ?_⟩ ((RBn_i _).mpr ?_) ?_
  · intro j _ e
    simp only [E_bx, decide_eq_false_iff_not] at e
    rw [pk_un e]; rfl
  · intro j _ e
    simp only [E_bx, decide_eq_false_iff_not] at e
    exact pk_un e
  · show upd (v.1 33) 0 (u.1 5 0 ||| jshl 1 (nI (V 0))) 0 = upd (u.1 5) 0 (u.1 5 0 ||| jshl 1 (nI (V 0))) 0
    rw [pk_us, pk_us]
  · intro i hi
    show bt (upd (u.1 5) 0 (u.1 5 0 ||| jshl 1 (nI (V 0))) 0) i = false
    rw [pk_us]
    exact bt_oneH (by omega) n0 i hi
  · intro t ht
    show upd (v.1 35) (V 0) (nI (V 1)) t = xF (u.1 7) V (4 * t) ∧ upd (v.1 36) (V 0) (nI (V 2)) t = xF (u.1 7) V (4 * t + 1) ∧ upd (v.1 37) (V 0) (if V 3 = 0 then nI (V 6) else nI (V 4) * nI (V 5)) t = xF (u.1 7) V (4 * t + 2) ∧ upd (v.1 38) (V 0) (if V 3 = 0 then nI (V 4) * nI (V 5) else nI (V 6)) t = xF (u.1 7) V (4 * t + 3)
    by_cases c : t = V 0
    · rw [c, pk_us, pk_us, pk_us, pk_us, xF_0, xF_1, xF_2 _ b3.2, xF_3 _ b3.2]
      exact ⟨rfl, rfl, rfl, rfl⟩
    · rw [pk_un c, pk_un c, pk_un c, pk_un c, xF_n _ b3.2 (show 4 * t < 4 * V 0 ∨ 4 * V 0 + 4 ≤ 4 * t by omega), xF_n _ b3.2 (show 4 * t + 1 < 4 * V 0 ∨ 4 * V 0 + 4 ≤ 4 * t + 1 by omega), xF_n _ b3.2 (show 4 * t + 2 < 4 * V 0 ∨ 4 * V 0 + 4 ≤ 4 * t + 2 by omega), xF_n _ b3.2 (show 4 * t + 3 < 4 * V 0 ∨ 4 * V 0 + 4 ≤ 4 * t + 3 by omega)]
      exact hb1.1 t ht
  · intro b hb k hk
    show fb_put (v.1 34) (tV3 V) (7 * V 0) 7 (7 * b + k) = fb_put (u.1 6) (tV V) (9 * V 0) 9 (9 * b + 2 + k)
    by_cases c : b = V 0
    · rw [c, fb_put_in (by omega) (by omega), fb_put_in (by omega) (by omega), show 7 * V 0 + k - 7 * V 0 = k by omega, show 9 * V 0 + 2 + k - 9 * V 0 = k + 2 by omega]
      rfl
    · rw [fb_put_out (by omega), fb_put_out (by omega)]
      exact hb1.2 b hb k hk
  · intro b hb ht
    have ht : bt (upd (u.1 5) 0 (u.1 5 0 ||| jshl 1 (nI (V 0))) 0) b = true := ht
    rw [pk_us] at ht
    show nBn (fb_put (u.1 6) (tV V) (9 * V 0) 9) (xF (u.1 7) V) b
    by_cases c : b = V 0
    · rw [c]
      exact nBn_V (u.1 6) (u.1 7) b1.2 b2.2 b3.2 b4 b5 b6 b7.2 b8.2 b9.2
    · rw [bt_oneN (by omega) (by omega) c] at ht
      exact nBn_c (f := u.1 6) (g := u.1 7) (fun i _ => fb_put_out (by omega)) (fun i hi => xF_n _ b3.2 (by omega)) (hb2 b hb ht)
  · intro t h8' ht hb
    have hb : bt (upd (u.1 5) 0 (u.1 5 0 ||| jshl 1 (nI (V 0))) 0) t = true := hb
    rw [pk_us, bt_oneN (by omega) (by omega) (by omega)] at hb
    show nb (xF (u.1 7) V (4 * t)) 0 999 ∧ nb (xF (u.1 7) V (4 * t + 1)) 0 999 ∧ nb (xF (u.1 7) V (4 * t + 2)) 1 999 ∧ nb (xF (u.1 7) V (4 * t + 3)) 1 999
    rw [xF_n _ b3.2 (show 4 * t < 4 * V 0 ∨ 4 * V 0 + 4 ≤ 4 * t by omega), xF_n _ b3.2 (show 4 * t + 1 < 4 * V 0 ∨ 4 * V 0 + 4 ≤ 4 * t + 1 by omega), xF_n _ b3.2 (show 4 * t + 2 < 4 * V 0 ∨ 4 * V 0 + 4 ≤ 4 * t + 2 by omega), xF_n _ b3.2 (show 4 * t + 3 < 4 * V 0 ∨ 4 * V 0 + 4 ≤ 4 * t + 3 by omega)]
    exact hb3 t h8' ht hb
/-- a line -/
theorem rl_k {k : Nat} (h : Rel (mx u v)) (hv : vOK k V) : Rel (mx (gCl k V u) (gM k V v)) := by
  have hk := hv.1
  rcases (by omega : k = 0 ∨ k = 1 ∨ k = 2 ∨ k = 3 ∨ k = 4 ∨ k = 5 ∨ k = 6) with e | e | e | e | e | e | e <;> subst e
  · exact rl_0 h hv
  · exact rl_1 h hv
  · exact rl_2 h hv
  · exact rl_3 h hv
  · exact rl_4 h hv
  · exact rl_5 h hv
  · exact rl_6 h hv
/-- what a line leaves alone -/
theorem gC_n {k a : Nat} (ha : a < 5 ∨ 11 < a) : (gCl k V u).1 a = u.1 a := by
  have n : ∀ (w : Wd) (j : Nat) (f : Nat → Int32), 5 ≤ j → j ≤ 11 → (wA w j f).1 a = w.1 a := fun w j f h1 h2 => wA_n _ _ (by omega)
  unfold gCl
  split
  · rw [n _ _ _ (by decide) (by decide), n _ _ _ (by decide) (by decide), n _ _ _ (by decide) (by decide)]
  · split
    · rw [n _ _ _ (by decide) (by decide), n _ _ _ (by decide) (by decide)]
    · split
      · rw [n _ _ _ (by decide) (by decide), n _ _ _ (by decide) (by decide)]
      · split
        · split
          · rfl
          · split
            · rfl
            · rw [n _ _ _ (by decide) (by decide), n _ _ _ (by decide) (by decide)]
        · split
          · rw [n _ _ _ (by decide) (by decide), n _ _ _ (by decide) (by decide)]
          · split
            · rw [n _ _ _ (by decide) (by decide)]
            · rw [n _ _ _ (by decide) (by decide)]
theorem gM_n {k a : Nat} (ha : a < 33 ∨ 43 < a) : (gM k V v).1 a = v.1 a := by
  have n : ∀ (w : Wd) (j : Nat) (f : Nat → Int32), 33 ≤ j → j ≤ 43 → (wA w j f).1 a = w.1 a := fun w j f h1 h2 => wA_n _ _ (by omega)
  unfold gM
  split
  · rw [n _ _ _ (by decide) (by decide), n _ _ _ (by decide) (by decide), n _ _ _ (by decide) (by decide), n _ _ _ (by decide) (by decide), n _ _ _ (by decide) (by decide), n _ _ _ (by decide) (by decide)]
  · split
    · rw [n _ _ _ (by decide) (by decide), n _ _ _ (by decide) (by decide), n _ _ _ (by decide) (by decide), n _ _ _ (by decide) (by decide), n _ _ _ (by decide) (by decide)]
    · split
      · rw [n _ _ _ (by decide) (by decide), n _ _ _ (by decide) (by decide)]
      · split
        · split
          · rfl
          · split
            · rfl
            · rw [n _ _ _ (by decide) (by decide), n _ _ _ (by decide) (by decide)]
        · split
          · rw [n _ _ _ (by decide) (by decide), n _ _ _ (by decide) (by decide)]
          · split
            · rw [n _ _ _ (by decide) (by decide)]
            · rw [n _ _ _ (by decide) (by decide)]
theorem gM_33 {k j : Nat} (hj : j = 15 ∨ j = 23) : (gM k V v).1 33 j = v.1 33 j := by
  have n : ∀ (w : Wd) (i : Nat) (f : Nat → Int32), 34 ≤ i → (wA w i f).1 33 = w.1 33 := fun w i f h1 => wA_n _ _ (by omega)
  unfold gM
  split
  · rw [n _ _ _ (by decide), n _ _ _ (by decide), n _ _ _ (by decide), n _ _ _ (by decide), n _ _ _ (by decide), wA_s, pk_un (by omega)]
  · split
    · rw [n _ _ _ (by decide), n _ _ _ (by decide), n _ _ _ (by decide), n _ _ _ (by decide), wA_s, pk_un (by omega)]
    · split
      · rw [n _ _ _ (by decide), n _ _ _ (by decide)]
      · split
        · split
          · rfl
          · split
            · rfl
            · rw [wA_s, pk_un (by omega)]
        · split
          · rw [n _ _ _ (by decide), wA_s, pk_un (by omega)]
          · split
            · rw [wA_s, pk_un (by omega)]
            · rw [wA_s, pk_un (by omega)]
end
/-- all lines -/
def itC (K : Nat → Nat) (W : Nat → Nat → Nat) (u : Wd) : Nat → Wd
  | 0 => u
  | l + 1 => gCl (K l) (W l) (itC K W u l)
def itM (K : Nat → Nat) (W : Nat → Nat → Nat) (v : Wd) : Nat → Wd
  | 0 => v
  | l + 1 => gM (K l) (W l) (itM K W v l)
theorem itC_n {K : Nat → Nat} {W : Nat → Nat → Nat} {u : Wd} {a : Nat} (ha : a < 5 ∨ 11 < a) : ∀ l, (itC K W u l).1 a = u.1 a
  | 0 => rfl
  | l + 1 => by rw [itC, gC_n ha]; exact itC_n ha l
theorem itM_n {K : Nat → Nat} {W : Nat → Nat → Nat} {v : Wd} {a : Nat} (ha : a < 33 ∨ 43 < a) : ∀ l, (itM K W v l).1 a = v.1 a
  | 0 => rfl
  | l + 1 => by rw [itM, gM_n ha]; exact itM_n ha l
theorem itM_33 {K : Nat → Nat} {W : Nat → Nat → Nat} {v : Wd} {j : Nat} (hj : j = 15 ∨ j = 23) : ∀ l, (itM K W v l).1 33 j = v.1 33 j
  | 0 => rfl
  | l + 1 => by rw [itM, gM_33 hj]; exact itM_33 hj l
theorem e_par {u : Wd} {n : Nat} {K : Nat → Nat} {W : Nat → Nat → Nat} (hn : n ≤ 8) (h2 : u.1 3 2 = nI n) (hA : rwOK (u.1 4) n K W) (hv : ∀ i, i < n → vOK (K i) (W i)) : ∀ (m l : Nat), l ≤ n → n - l < m → f_X9_parish_16 m (nI l) (itC K W u l) = some (nI n, wS (itC K W u n) 1 1 0) := by
  intro m
  induction m with
  | zero => intro l _ h; omega
  | succ m ih =>
    intro l hl hm
    have r3 : (itC K W u l).1 3 2 = nI n := by rw [itC_n (a := 3) (by decide)]; exact h2
    have r4 : (itC K W u l).1 4 = u.1 4 := itC_n (a := 4) (by decide) l
    rw [f_X9_parish_16, r3]
    by_cases c : l = n
    · subst c
      rw [if_pos (nI_le (Nat.le_refl _) (by omega)), wS_d, wA_n _ _ (show 3 ≠ 1 by decide), r3]
    · obtain ⟨k1, k2, k3⟩ := hA l (by omega)
      rw [if_neg (nI_ge (by omega) (by omega)), e_doLine (k := K l) (V := W l) (by omega) (hv l (by omega)) (by rw [r4]; exact k2) (fun i hi => by rw [r4]; exact k3 i hi), Option.bind_some, p1]
      exact ih (l + 1) (by omega) (by omega)
theorem m_par {v : Wd} {n : Nat} {K : Nat → Nat} {W : Nat → Nat → Nat} (hn : n ≤ 8) (h2 : v.1 33 23 = nI n) (hA : rwOK (v.1 45) n K W) (hv : ∀ i, i < n → vOK (K i) (W i)) : ∀ (m l : Nat), l ≤ n → n - l < m → f_X10_parish_12 m (nI l) (itM K W v l) = some (nI n, wS (itM K W v n) 33 15 0) := by
  intro m
  induction m with
  | zero => intro l _ h; omega
  | succ m ih =>
    intro l hl hm
    have r3 : (itM K W v l).1 33 23 = nI n := by rw [itM_33 (Or.inr rfl)]; exact h2
    have r4 : (itM K W v l).1 45 = v.1 45 := itM_n (a := 45) (by decide) l
    rw [f_X10_parish_12, r3]
    by_cases c : l = n
    · subst c
      rw [if_pos (nI_le (Nat.le_refl _) (by omega)), wS_d, wA_s, pk_un (show 23 ≠ 15 by decide), r3]
    · obtain ⟨k1, k2, k3⟩ := hA l (by omega)
      rw [if_neg (nI_ge (by omega) (by omega)), show (11 : Int32) * nI l = nI (11 * l) from pk_mul 11 l, m_doLine (q := 11 * l) (k := K l) (V := W l) (by omega) (hv l (by omega)) (by rw [r4]; exact k2) (fun i hi => by rw [r4]; exact k3 i hi), Option.bind_some, p1]
      exact ih (l + 1) (by omega) (by omega)
theorem op_parish {w : Wd} (h : Rel w) : Agree f_X9_parish f_X10_parish w := by
  obtain ⟨T, N, hx, hm⟩ := h.text
  have hN := hx.1
  obtain ⟨L', b', e', A', e1, e2⟩ := e_firstFault hx
  have hok := rdF_ok (7 + 1) 0 0 _ _ _ (rd0_d T N) (fun i hi => by omega)
  have hbd := fun b => rdF_b (7 + 1) 0 0 _ _ _ b (rd0_d T N) (Nat.zero_le _)
  have hrd : ∀ v, hTm v T N → RD v (rd0 T N) (f_X10_isRead v) := fun v hv => m_isRead hv
  generalize rd0 T N = R at e1 e2 hok hbd hrd
  obtain ⟨r0, n, K, W⟩ := R
  dsimp only at e1 e2 hok hbd
  cases r0 with
  | some b =>
    have hb : b ≤ N := hbd b rfl
    have s1 := cR_sim w L' b' e' A'
    obtain ⟨p, t, d, n', f, r, A, k, e4, -, -⟩ := hrd _ (hm.sim s1)
    refine ⟨-4, cR w L' b' e' A', mR (cR w L' b' e' A') p t d n' f r A k, ?_, ?_, (h.sim s1).sim mR_sim⟩
    · unfold f_X9_parish
      rw [e1, Option.bind_some]
      dsimp only
      rw [if_neg (fun z => by have := (oI_ne (o := some b) (fun x hx => by injection hx with hx; omega)).mp z; cases this)]
    · unfold f_X10_parish
      rw [e4, Option.bind_some]
      dsimp only
      rw [if_pos (show b2i (some b).isNone = 0 from rfl)]
  | none =>
    obtain ⟨q1, q2⟩ := e2 rfl
    obtain ⟨o1, o2⟩ := hok rfl
    have hn8 : n ≤ 8 := by omega
    rw [q1] at e1
    obtain ⟨u0, hu0⟩ : ∃ u0, cR w n b' e' A' = u0 := ⟨_, rfl⟩
    have s1 : sim w u0 := by rw [← hu0]; exact cR_sim w n b' e' A'
    have g32 : u0.1 3 2 = nI n := by rw [← hu0]; exact cR_32 w n b' e' A'
    have g4 : rwOK (u0.1 4) n K W := by rw [← hu0, cR_4]; exact q2
    have g9 : ∀ a, 33 ≤ a → u0.1 a = w.1 a := fun a ha => by rw [← hu0]; exact cR_n w n b' e' A' (by omega) (by omega)
    rw [hu0] at e1
    have pr1 := e_par hn8 g32 g4 o2 fu 0 (Nat.zero_le _) (Nat.lt_of_le_of_lt (show n - 0 ≤ 8 by omega) (by decide))
    obtain ⟨w1, hw1⟩ : ∃ w1, wS (itC K W u0 n) 1 1 0 = w1 := ⟨_, rfl⟩
    rw [hw1] at pr1
    have w1n : ∀ a, a ≠ 1 → w1.1 a = (itC K W u0 n).1 a := fun a ha => by rw [← hw1, wS_d]; exact wA_n _ _ ha
    have w11 : w1.1 1 = upd ((itC K W u0 n).1 1) 1 0 := by rw [← hw1, wS_d]; exact wA_s _ _ _
    have w1m : ∀ a, 33 ≤ a → w1.1 a = w.1 a := fun a ha => by rw [w1n a (by omega), itC_n (Or.inr (by omega)), g9 a ha]
    have hm1 : hTm w1 T N := ⟨hm.1, fun j hj => ⟨by rw [w1m 44 (by decide)]; exact (hm.2.1 j hj).1, (hm.2.1 j hj).2⟩, by rw [w1m 33 (by decide)]; exact hm.2.2⟩
    obtain ⟨p, t, d, n', f, r, A, k, e4, -, q5⟩ := hrd _ hm1
    obtain ⟨q6, q7⟩ := q5 rfl
    obtain ⟨v0, hv0⟩ : ∃ v0, mR w1 p t d n' f r A k = v0 := ⟨_, rfl⟩
    have s2 : sim w1 v0 := by rw [← hv0]; exact mR_sim
    have k23 : v0.1 33 23 = nI n := by rw [← hv0, mR_23]; exact q6
    have k45 : rwOK (v0.1 45) n K W := by rw [← hv0, mR_45]; exact q7
    have k9 : ∀ a, a < 33 → v0.1 a = w1.1 a := fun a ha => by rw [← hv0]; exact mR_n (by omega) (by omega)
    rw [hv0] at e4
    have pr2 := m_par hn8 k23 k45 o2 fu 0 (Nat.zero_le _) (Nat.lt_of_le_of_lt (show n - 0 ≤ 8 by omega) (by decide))
    have base : Rel (mx u0 v0) := by
      refine h.sim (fun a j e => ?_)
      by_cases ha : a < 33
      · rw [mx_l _ _ ha]; exact s1 a j e
      · rw [mx_r _ _ ha, s2 a j e, w1m a (by omega)]
    have step : ∀ l, l ≤ n → Rel (mx (itC K W u0 l) (itM K W v0 l)) := by
      intro l
      induction l with
      | zero => intro _; exact base
      | succ l ih => intro hl; exact rl_k (ih (by omega)) (o2 l (by omega))
    have hf := step n (Nat.le_refl _)
    refine ⟨nI n, w1, wS (itM K W v0 n) 33 15 0, ?_, ?_, ?_⟩
    · unfold f_X9_parish
      rw [e1, Option.bind_some]
      dsimp only
      rw [if_pos (show oI none = -1 from rfl)]
      exact pr1
    · unfold f_X10_parish
      rw [e4, Option.bind_some]
      dsimp only
      rw [if_neg (show ¬ b2i (none : Option Nat).isNone = 0 by decide)]
      exact pr2
    · have x1 : ∀ a, a < 33 → (wS (itM K W v0 n) 33 15 0).1 a = w1.1 a := fun a ha => by
        rw [wS_d, wA_n _ _ (by omega), itM_n (Or.inl ha), k9 a ha]
      have x2 : ∀ a, a ≠ 33 → (wS (itM K W v0 n) 33 15 0).1 a = (itM K W v0 n).1 a := fun a ha => by
        rw [wS_d, wA_n _ _ ha]
      have x3 : (wS (itM K W v0 n) 33 15 0).1 33 = upd ((itM K W v0 n).1 33) 15 0 := by
        rw [wS_d, wA_s]
      obtain ⟨⟨h1, h2, h3, h4, h5, h6, h7, h8, h9, h10, h11, h12, h13, h14, h15, h16, h17, h18⟩, hb1, hb2, hb3, n0, n1, n2, n3, n4, n5, n6, n7, n8, n9, n10, n11, n12, n13⟩ := id hf
      have y2 : (wS (itM K W v0 n) 33 15 0).1 2 = (itC K W u0 n).1 2 := by rw [x1 2 (by decide), w1n 2 (by decide)]
      have y1 : (wS (itM K W v0 n) 33 15 0).1 1 1 = 0 := by rw [x1 1 (by decide), w11, pk_us]
      refine hf.tx (fun a j c1 c2 => ?_) ?_ ?_ ?_ ?_
      · by_cases ha : a < 33
        · rw [mx_l _ _ ha, x1 a ha]
          by_cases h1' : a = 1
          · subst h1'
            simp only [E_tx, decide_eq_false_iff_not] at c2
            rw [w11, pk_un c2]
          · rw [w1n a h1']
        · rw [mx_r _ _ ha]
          by_cases h3' : a = 33
          · subst h3'
            simp only [E_tx, decide_eq_false_iff_not] at c2
            rw [x3, pk_un c2]
          · rw [x2 a h3']
      · rw [x3, pk_us, y1]
      · rw [x2 44 (by decide), y2]
        exact h8
      · rw [y1]; exact nb_0
      · intro j
        rw [y2]
        exact n6 j
