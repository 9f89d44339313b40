/-- as sim, but for the cells that E names -/
def simX (E : Nat → Nat → Bool) (w v : Wd) : Prop := ∀ k j, sc k j = false → E k j = false → v.1 k j = w.1 k j
theorem simX.row {E : Nat → Nat → Bool} {w v : Wd} (h : simX E w v) (k : Nat) (hk : ∀ j, sc k j = false) (hE : ∀ j, E k j = false) : v.1 k = w.1 k := funext fun j => h k j (hk j) (hE j)
theorem simX.rf (E : Nat → Nat → Bool) (w : Wd) : simX E w w := fun _ _ _ _ => rfl
theorem simX.tr {E : Nat → Nat → Bool} {u v w : Wd} (h1 : simX E u v) (h2 : simX E v w) : simX E u w := fun k j h e => (h2 k j h e).trans (h1 k j h e)
theorem simX.of {E : Nat → Nat → Bool} {u v : Wd} (h : sim u v) : simX E u v := fun k j e _ => h k j e
theorem simX.st {E : Nat → Nat → Bool} {w v : Wd} (h : simX E w v) {k : Nat} (f : Nat → Int32) (hk : ∀ j, sc k j = false → E k j = false → f j = v.1 k j) : simX E w (wA v k f) := by
  intro a j e e2
  by_cases ha : a = k
  · subst ha
    rw [wA_s, hk j e e2]
    exact h a j e e2
  · rw [wA_n _ _ ha]
    exact h a j e e2
theorem simX.all {E : Nat → Nat → Bool} {w v : Wd} (h : simX E w v) {k : Nat} (f : Nat → Int32) (hk : ∀ j, E k j = true) : simX E w (wA v k f) := h.st f (fun j _ e => by rw [hk j] at e; cases e)
def E_tx (k j : Nat) : Bool := match k with
  | 33 => decide (j = 15)
  | 1 => decide (j = 1)
  | 44 => true
  | 2 => true
  | _ => false
theorem Rel.tx {w v : Wd} (h : Rel w) (s : simX E_tx w v) (hs5 : v.1 33 15 = v.1 1 1) (hr0 : v.1 44 = v.1 2) (hn5 : nb (v.1 1 1) 0 200) (hn6 : (∀ j, nb (v.1 2 j) 0 255)) : Rel v := by
  obtain ⟨⟨h1, h2, h3, h4, h5, h6, h7, h8, h9, h10, h11, h12, h13, h14, h15, h16, h17, h18⟩, hb1, hb2, hb3, n0, n1, n2, n3, n4, n5, n6, n7, n8, n9, n10, n11, n12, n13⟩ := h
  have r : ∀ k, (∀ j, sc k j = false) → (∀ j, E_tx k j = false) → v.1 k = w.1 k := fun k hk he => s.row k hk he
  refine ⟨⟨?_, ?_, ?_, ?_, ?_, ?_, ?_, ?_, ?_, ?_, ?_, ?_, ?_, ?_, ?_, ?_, ?_, ?_⟩, ?_, ?_, ?_, ?_, ?_, ?_, ?_, ?_, ?_, ?_, ?_, ?_, ?_, ?_, ?_, ?_, ?_⟩
  · rw [s 33 0 rfl rfl, s 5 0 rfl rfl, h1]
  · rw [s 33 8 rfl rfl, s 5 6 rfl rfl, h2]
  · rw [s 33 11 rfl rfl, s 5 7 rfl rfl, h3]
  · rw [s 33 13 rfl rfl, s 5 9 rfl rfl, h4]
  · rw [s 33 14 rfl rfl, s 5 10 rfl rfl, h5]
  · exact hs5
  · rw [s 33 35 rfl rfl, s 29 4 rfl rfl, h7]
  · exact hr0
  · rw [r 39 (fun _ => rfl) (fun _ => rfl), r 8 (fun _ => rfl) (fun _ => rfl), h9]
  · rw [r 40 (fun _ => rfl) (fun _ => rfl), r 9 (fun _ => rfl) (fun _ => rfl), h10]
  · rw [r 41 (fun _ => rfl) (fun _ => rfl), r 10 (fun _ => rfl) (fun _ => rfl), h11]
  · rw [r 43 (fun _ => rfl) (fun _ => rfl), r 11 (fun _ => rfl) (fun _ => rfl), h12]
  · rw [r 49 (fun _ => rfl) (fun _ => rfl), r 21 (fun _ => rfl) (fun _ => rfl), h13]
  · rw [r 50 (fun _ => rfl) (fun _ => rfl), r 22 (fun _ => rfl) (fun _ => rfl), h14]
  · rw [r 53 (fun _ => rfl) (fun _ => rfl), r 28 (fun _ => rfl) (fun _ => rfl), h15]
  · rw [r 54 (fun _ => rfl) (fun _ => rfl), r 30 (fun _ => rfl) (fun _ => rfl), h16]
  · rw [r 55 (fun _ => rfl) (fun _ => rfl), r 31 (fun _ => rfl) (fun _ => rfl), h17]
  · rw [r 56 (fun _ => rfl) (fun _ => rfl), r 32 (fun _ => rfl) (fun _ => rfl), h18]
  · unfold RBx at *
    rw [r 35 (fun _ => rfl) (fun _ => rfl), r 36 (fun _ => rfl) (fun _ => rfl), r 37 (fun _ => rfl) (fun _ => rfl), r 38 (fun _ => rfl) (fun _ => rfl), r 34 (fun _ => rfl) (fun _ => rfl), r 6 (fun _ => rfl) (fun _ => rfl), r 7 (fun _ => rfl) (fun _ => rfl)]
    exact hb1
  · unfold RBn at *
    rw [s 5 0 rfl rfl, r 6 (fun _ => rfl) (fun _ => rfl), r 7 (fun _ => rfl) (fun _ => rfl)]
    exact hb2
  · unfold RBm at *
    rw [s 5 0 rfl rfl, r 7 (fun _ => rfl) (fun _ => rfl)]
    exact hb3
  · rw [s 5 0 rfl rfl]; exact n0
  · rw [s 5 6 rfl rfl]; exact n1
  · rw [s 5 7 rfl rfl]; exact n2
  · rw [s 5 9 rfl rfl]; exact n3
  · rw [s 5 10 rfl rfl]; exact n4
  · exact hn5
  · exact hn6
  · rw [r 8 (fun _ => rfl) (fun _ => rfl), r 9 (fun _ => rfl) (fun _ => rfl)]; exact n7
  · rw [r 10 (fun _ => rfl) (fun _ => rfl)]; exact n8
  · rw [s 5 7 rfl rfl, r 11 (fun _ => rfl) (fun _ => rfl)]; exact n9
  · rw [r 21 (fun _ => rfl) (fun _ => rfl)]; exact n10
  · rw [r 22 (fun _ => rfl) (fun _ => rfl)]; exact n11
  · rw [s 29 4 rfl rfl]; exact n12
  · rw [r 30 (fun _ => rfl) (fun _ => rfl), r 31 (fun _ => rfl) (fun _ => rfl), r 32 (fun _ => rfl) (fun _ => rfl)]; exact n13
def E_ho (k j : Nat) : Bool := match k with
  | 53 => true
  | 28 => true
  | _ => false
theorem Rel.ho {w v : Wd} (h : Rel w) (s : simX E_ho w v) (hr7 : v.1 53 = v.1 28) : Rel v := by
  obtain ⟨⟨h1, h2, h3, h4, h5, h6, h7, h8, h9, h10, h11, h12, h13, h14, h15, h16, h17, h18⟩, hb1, hb2, hb3, n0, n1, n2, n3, n4, n5, n6, n7, n8, n9, n10, n11, n12, n13⟩ := h
  have r : ∀ k, (∀ j, sc k j = false) → (∀ j, E_ho k j = false) → v.1 k = w.1 k := fun k hk he => s.row k hk he
  refine ⟨⟨?_, ?_, ?_, ?_, ?_, ?_, ?_, ?_, ?_, ?_, ?_, ?_, ?_, ?_, ?_, ?_, ?_, ?_⟩, ?_, ?_, ?_, ?_, ?_, ?_, ?_, ?_, ?_, ?_, ?_, ?_, ?_, ?_, ?_, ?_, ?_⟩
  · rw [s 33 0 rfl rfl, s 5 0 rfl rfl, h1]
  · rw [s 33 8 rfl rfl, s 5 6 rfl rfl, h2]
  · rw [s 33 11 rfl rfl, s 5 7 rfl rfl, h3]
  · rw [s 33 13 rfl rfl, s 5 9 rfl rfl, h4]
  · rw [s 33 14 rfl rfl, s 5 10 rfl rfl, h5]
  · rw [s 33 15 rfl rfl, s 1 1 rfl rfl, h6]
  · rw [s 33 35 rfl rfl, s 29 4 rfl rfl, h7]
  · rw [r 44 (fun _ => rfl) (fun _ => rfl), r 2 (fun _ => rfl) (fun _ => rfl), h8]
  · rw [r 39 (fun _ => rfl) (fun _ => rfl), r 8 (fun _ => rfl) (fun _ => rfl), h9]
  · rw [r 40 (fun _ => rfl) (fun _ => rfl), r 9 (fun _ => rfl) (fun _ => rfl), h10]
  · rw [r 41 (fun _ => rfl) (fun _ => rfl), r 10 (fun _ => rfl) (fun _ => rfl), h11]
  · rw [r 43 (fun _ => rfl) (fun _ => rfl), r 11 (fun _ => rfl) (fun _ => rfl), h12]
  · rw [r 49 (fun _ => rfl) (fun _ => rfl), r 21 (fun _ => rfl) (fun _ => rfl), h13]
  · rw [r 50 (fun _ => rfl) (fun _ => rfl), r 22 (fun _ => rfl) (fun _ => rfl), h14]
  · exact hr7
  · rw [r 54 (fun _ => rfl) (fun _ => rfl), r 30 (fun _ => rfl) (fun _ => rfl), h16]
  · rw [r 55 (fun _ => rfl) (fun _ => rfl), r 31 (fun _ => rfl) (fun _ => rfl), h17]
  · rw [r 56 (fun _ => rfl) (fun _ => rfl), r 32 (fun _ => rfl) (fun _ => rfl), h18]
  · unfold RBx at *
    rw [r 35 (fun _ => rfl) (fun _ => rfl), r 36 (fun _ => rfl) (fun _ => rfl), r 37 (fun _ => rfl) (fun _ => rfl), r 38 (fun _ => rfl) (fun _ => rfl), r 34 (fun _ => rfl) (fun _ => rfl), r 6 (fun _ => rfl) (fun _ => rfl), r 7 (fun _ => rfl) (fun _ => rfl)]
    exact hb1
  · unfold RBn at *
    rw [s 5 0 rfl rfl, r 6 (fun _ => rfl) (fun _ => rfl), r 7 (fun _ => rfl) (fun _ => rfl)]
    exact hb2
  · unfold RBm at *
    rw [s 5 0 rfl rfl, r 7 (fun _ => rfl) (fun _ => rfl)]
    exact hb3
  · rw [s 5 0 rfl rfl]; exact n0
  · rw [s 5 6 rfl rfl]; exact n1
  · rw [s 5 7 rfl rfl]; exact n2
  · rw [s 5 9 rfl rfl]; exact n3
  · rw [s 5 10 rfl rfl]; exact n4
  · rw [s 1 1 rfl rfl]; exact n5
  · rw [r 2 (fun _ => rfl) (fun _ => rfl)]; exact n6
  · rw [r 8 (fun _ => rfl) (fun _ => rfl), r 9 (fun _ => rfl) (fun _ => rfl)]; exact n7
  · rw [r 10 (fun _ => rfl) (fun _ => rfl)]; exact n8
  · rw [s 5 7 rfl rfl, r 11 (fun _ => rfl) (fun _ => rfl)]; exact n9
  · rw [r 21 (fun _ => rfl) (fun _ => rfl)]; exact n10
  · rw [r 22 (fun _ => rfl) (fun _ => rfl)]; exact n11
  · rw [s 29 4 rfl rfl]; exact n12
  · rw [r 30 (fun _ => rfl) (fun _ => rfl), r 31 (fun _ => rfl) (fun _ => rfl), r 32 (fun _ => rfl) (fun _ => rfl)]; exact n13
def E_te (k j : Nat) : Bool := match k with
  | 49 => true
  | 21 => true
  | 50 => true
  | 22 => true
  | _ => false
theorem Rel.te {w v : Wd} (h : Rel w) (s : simX E_te w v) (hr5 : v.1 49 = v.1 21) (hr6 : v.1 50 = v.1 22) (hn10 : (∀ t, t < 5 → nb (v.1 21 t) 0 30)) (hn11 : (∀ t, t < 5 → ∀ i, bt (v.1 22 t) i = true → i < 5)) : Rel v := by
  obtain ⟨⟨h1, h2, h3, h4, h5, h6, h7, h8, h9, h10, h11, h12, h13, h14, h15, h16, h17, h18⟩, hb1, hb2, hb3, n0, n1, n2, n3, n4, n5, n6, n7, n8, n9, n10, n11, n12, n13⟩ := h
  have r : ∀ k, (∀ j, sc k j = false) → (∀ j, E_te k j = false) → v.1 k = w.1 k := fun k hk he => s.row k hk he
  refine ⟨⟨?_, ?_, ?_, ?_, ?_, ?_, ?_, ?_, ?_, ?_, ?_, ?_, ?_, ?_, ?_, ?_, ?_, ?_⟩, ?_, ?_, ?_, ?_, ?_, ?_, ?_, ?_, ?_, ?_, ?_, ?_, ?_, ?_, ?_, ?_, ?_⟩
  · rw [s 33 0 rfl rfl, s 5 0 rfl rfl, h1]
  · rw [s 33 8 rfl rfl, s 5 6 rfl rfl, h2]
  · rw [s 33 11 rfl rfl, s 5 7 rfl rfl, h3]
  · rw [s 33 13 rfl rfl, s 5 9 rfl rfl, h4]
  · rw [s 33 14 rfl rfl, s 5 10 rfl rfl, h5]
  · rw [s 33 15 rfl rfl, s 1 1 rfl rfl, h6]
  · rw [s 33 35 rfl rfl, s 29 4 rfl rfl, h7]
  · rw [r 44 (fun _ => rfl) (fun _ => rfl), r 2 (fun _ => rfl) (fun _ => rfl), h8]
  · rw [r 39 (fun _ => rfl) (fun _ => rfl), r 8 (fun _ => rfl) (fun _ => rfl), h9]
  · rw [r 40 (fun _ => rfl) (fun _ => rfl), r 9 (fun _ => rfl) (fun _ => rfl), h10]
  · rw [r 41 (fun _ => rfl) (fun _ => rfl), r 10 (fun _ => rfl) (fun _ => rfl), h11]
  · rw [r 43 (fun _ => rfl) (fun _ => rfl), r 11 (fun _ => rfl) (fun _ => rfl), h12]
  · exact hr5
  · exact hr6
  · rw [r 53 (fun _ => rfl) (fun _ => rfl), r 28 (fun _ => rfl) (fun _ => rfl), h15]
  · rw [r 54 (fun _ => rfl) (fun _ => rfl), r 30 (fun _ => rfl) (fun _ => rfl), h16]
  · rw [r 55 (fun _ => rfl) (fun _ => rfl), r 31 (fun _ => rfl) (fun _ => rfl), h17]
  · rw [r 56 (fun _ => rfl) (fun _ => rfl), r 32 (fun _ => rfl) (fun _ => rfl), h18]
  · unfold RBx at *
    rw [r 35 (fun _ => rfl) (fun _ => rfl), r 36 (fun _ => rfl) (fun _ => rfl), r 37 (fun _ => rfl) (fun _ => rfl), r 38 (fun _ => rfl) (fun _ => rfl), r 34 (fun _ => rfl) (fun _ => rfl), r 6 (fun _ => rfl) (fun _ => rfl), r 7 (fun _ => rfl) (fun _ => rfl)]
    exact hb1
  · unfold RBn at *
    rw [s 5 0 rfl rfl, r 6 (fun _ => rfl) (fun _ => rfl), r 7 (fun _ => rfl) (fun _ => rfl)]
    exact hb2
  · unfold RBm at *
    rw [s 5 0 rfl rfl, r 7 (fun _ => rfl) (fun _ => rfl)]
    exact hb3
  · rw [s 5 0 rfl rfl]; exact n0
  · rw [s 5 6 rfl rfl]; exact n1
  · rw [s 5 7 rfl rfl]; exact n2
  · rw [s 5 9 rfl rfl]; exact n3
  · rw [s 5 10 rfl rfl]; exact n4
  · rw [s 1 1 rfl rfl]; exact n5
  · rw [r 2 (fun _ => rfl) (fun _ => rfl)]; exact n6
  · rw [r 8 (fun _ => rfl) (fun _ => rfl), r 9 (fun _ => rfl) (fun _ => rfl)]; exact n7
  · rw [r 10 (fun _ => rfl) (fun _ => rfl)]; exact n8
  · rw [s 5 7 rfl rfl, r 11 (fun _ => rfl) (fun _ => rfl)]; exact n9
  · exact hn10
  · exact hn11
  · rw [s 29 4 rfl rfl]; exact n12
  · rw [r 30 (fun _ => rfl) (fun _ => rfl), r 31 (fun _ => rfl) (fun _ => rfl), r 32 (fun _ => rfl) (fun _ => rfl)]; exact n13
def E_pi (k j : Nat) : Bool := match k with
  | 33 => decide (j = 35)
  | 29 => decide (j = 4)
  | 54 => true
  | 30 => true
  | 55 => true
  | 31 => true
  | 56 => true
  | 32 => true
  | _ => false
theorem Rel.pi {w v : Wd} (h : Rel w) (s : simX E_pi w v) (hs6 : v.1 33 35 = v.1 29 4) (hr8 : v.1 54 = v.1 30) (hr9 : v.1 55 = v.1 31) (hr10 : v.1 56 = v.1 32) (hn12 : nb (v.1 29 4) 0 8) (hn13 : (∀ p, p < 8 → nb (v.1 30 p) 0 1 ∧ nb (v.1 31 p) 0 60 ∧ ∀ i, bt (v.1 32 p) i = true → i < 8)) : Rel v := by
  obtain ⟨⟨h1, h2, h3, h4, h5, h6, h7, h8, h9, h10, h11, h12, h13, h14, h15, h16, h17, h18⟩, hb1, hb2, hb3, n0, n1, n2, n3, n4, n5, n6, n7, n8, n9, n10, n11, n12, n13⟩ := h
  have r : ∀ k, (∀ j, sc k j = false) → (∀ j, E_pi k j = false) → v.1 k = w.1 k := fun k hk he => s.row k hk he
  refine ⟨⟨?_, ?_, ?_, ?_, ?_, ?_, ?_, ?_, ?_, ?_, ?_, ?_, ?_, ?_, ?_, ?_, ?_, ?_⟩, ?_, ?_, ?_, ?_, ?_, ?_, ?_, ?_, ?_, ?_, ?_, ?_, ?_, ?_, ?_, ?_, ?_⟩
  · rw [s 33 0 rfl rfl, s 5 0 rfl rfl, h1]
  · rw [s 33 8 rfl rfl, s 5 6 rfl rfl, h2]
  · rw [s 33 11 rfl rfl, s 5 7 rfl rfl, h3]
  · rw [s 33 13 rfl rfl, s 5 9 rfl rfl, h4]
  · rw [s 33 14 rfl rfl, s 5 10 rfl rfl, h5]
  · rw [s 33 15 rfl rfl, s 1 1 rfl rfl, h6]
  · exact hs6
  · rw [r 44 (fun _ => rfl) (fun _ => rfl), r 2 (fun _ => rfl) (fun _ => rfl), h8]
  · rw [r 39 (fun _ => rfl) (fun _ => rfl), r 8 (fun _ => rfl) (fun _ => rfl), h9]
  · rw [r 40 (fun _ => rfl) (fun _ => rfl), r 9 (fun _ => rfl) (fun _ => rfl), h10]
  · rw [r 41 (fun _ => rfl) (fun _ => rfl), r 10 (fun _ => rfl) (fun _ => rfl), h11]
  · rw [r 43 (fun _ => rfl) (fun _ => rfl), r 11 (fun _ => rfl) (fun _ => rfl), h12]
  · rw [r 49 (fun _ => rfl) (fun _ => rfl), r 21 (fun _ => rfl) (fun _ => rfl), h13]
  · rw [r 50 (fun _ => rfl) (fun _ => rfl), r 22 (fun _ => rfl) (fun _ => rfl), h14]
  · rw [r 53 (fun _ => rfl) (fun _ => rfl), r 28 (fun _ => rfl) (fun _ => rfl), h15]
  · exact hr8
  · exact hr9
  · exact hr10
  · unfold RBx at *
    rw [r 35 (fun _ => rfl) (fun _ => rfl), r 36 (fun _ => rfl) (fun _ => rfl), r 37 (fun _ => rfl) (fun _ => rfl), r 38 (fun _ => rfl) (fun _ => rfl), r 34 (fun _ => rfl) (fun _ => rfl), r 6 (fun _ => rfl) (fun _ => rfl), r 7 (fun _ => rfl) (fun _ => rfl)]
    exact hb1
  · unfold RBn at *
    rw [s 5 0 rfl rfl, r 6 (fun _ => rfl) (fun _ => rfl), r 7 (fun _ => rfl) (fun _ => rfl)]
    exact hb2
  · unfold RBm at *
    rw [s 5 0 rfl rfl, r 7 (fun _ => rfl) (fun _ => rfl)]
    exact hb3
  · rw [s 5 0 rfl rfl]; exact n0
  · rw [s 5 6 rfl rfl]; exact n1
  · rw [s 5 7 rfl rfl]; exact n2
  · rw [s 5 9 rfl rfl]; exact n3
  · rw [s 5 10 rfl rfl]; exact n4
  · rw [s 1 1 rfl rfl]; exact n5
  · rw [r 2 (fun _ => rfl) (fun _ => rfl)]; exact n6
  · rw [r 8 (fun _ => rfl) (fun _ => rfl), r 9 (fun _ => rfl) (fun _ => rfl)]; exact n7
  · rw [r 10 (fun _ => rfl) (fun _ => rfl)]; exact n8
  · rw [s 5 7 rfl rfl, r 11 (fun _ => rfl) (fun _ => rfl)]; exact n9
  · rw [r 21 (fun _ => rfl) (fun _ => rfl)]; exact n10
  · rw [r 22 (fun _ => rfl) (fun _ => rfl)]; exact n11
  · exact hn12
  · exact hn13
def E_yr (k j : Nat) : Bool := match k with
  | 39 => true
  | 8 => true
  | 40 => true
  | 9 => true
  | _ => false
theorem Rel.yr {w v : Wd} (h : Rel w) (s : simX E_yr w v) (hr1 : v.1 39 = v.1 8) (hr2 : v.1 40 = v.1 9) (hn7 : (∀ t, t < 14 → nb (v.1 8 t) 0 2000 ∧ nb (v.1 9 t) 0 2000)) : Rel v := by
  obtain ⟨⟨h1, h2, h3, h4, h5, h6, h7, h8, h9, h10, h11, h12, h13, h14, h15, h16, h17, h18⟩, hb1, hb2, hb3, n0, n1, n2, n3, n4, n5, n6, n7, n8, n9, n10, n11, n12, n13⟩ := h
  have r : ∀ k, (∀ j, sc k j = false) → (∀ j, E_yr k j = false) → v.1 k = w.1 k := fun k hk he => s.row k hk he
  refine ⟨⟨?_, ?_, ?_, ?_, ?_, ?_, ?_, ?_, ?_, ?_, ?_, ?_, ?_, ?_, ?_, ?_, ?_, ?_⟩, ?_, ?_, ?_, ?_, ?_, ?_, ?_, ?_, ?_, ?_, ?_, ?_, ?_, ?_, ?_, ?_, ?_⟩
  · rw [s 33 0 rfl rfl, s 5 0 rfl rfl, h1]
  · rw [s 33 8 rfl rfl, s 5 6 rfl rfl, h2]
  · rw [s 33 11 rfl rfl, s 5 7 rfl rfl, h3]
  · rw [s 33 13 rfl rfl, s 5 9 rfl rfl, h4]
  · rw [s 33 14 rfl rfl, s 5 10 rfl rfl, h5]
  · rw [s 33 15 rfl rfl, s 1 1 rfl rfl, h6]
  · rw [s 33 35 rfl rfl, s 29 4 rfl rfl, h7]
  · rw [r 44 (fun _ => rfl) (fun _ => rfl), r 2 (fun _ => rfl) (fun _ => rfl), h8]
  · exact hr1
  · exact hr2
  · rw [r 41 (fun _ => rfl) (fun _ => rfl), r 10 (fun _ => rfl) (fun _ => rfl), h11]
  · rw [r 43 (fun _ => rfl) (fun _ => rfl), r 11 (fun _ => rfl) (fun _ => rfl), h12]
  · rw [r 49 (fun _ => rfl) (fun _ => rfl), r 21 (fun _ => rfl) (fun _ => rfl), h13]
  · rw [r 50 (fun _ => rfl) (fun _ => rfl), r 22 (fun _ => rfl) (fun _ => rfl), h14]
  · rw [r 53 (fun _ => rfl) (fun _ => rfl), r 28 (fun _ => rfl) (fun _ => rfl), h15]
  · rw [r 54 (fun _ => rfl) (fun _ => rfl), r 30 (fun _ => rfl) (fun _ => rfl), h16]
  · rw [r 55 (fun _ => rfl) (fun _ => rfl), r 31 (fun _ => rfl) (fun _ => rfl), h17]
  · rw [r 56 (fun _ => rfl) (fun _ => rfl), r 32 (fun _ => rfl) (fun _ => rfl), h18]
  · unfold RBx at *
    rw [r 35 (fun _ => rfl) (fun _ => rfl), r 36 (fun _ => rfl) (fun _ => rfl), r 37 (fun _ => rfl) (fun _ => rfl), r 38 (fun _ => rfl) (fun _ => rfl), r 34 (fun _ => rfl) (fun _ => rfl), r 6 (fun _ => rfl) (fun _ => rfl), r 7 (fun _ => rfl) (fun _ => rfl)]
    exact hb1
  · unfold RBn at *
    rw [s 5 0 rfl rfl, r 6 (fun _ => rfl) (fun _ => rfl), r 7 (fun _ => rfl) (fun _ => rfl)]
    exact hb2
  · unfold RBm at *
    rw [s 5 0 rfl rfl, r 7 (fun _ => rfl) (fun _ => rfl)]
    exact hb3
  · rw [s 5 0 rfl rfl]; exact n0
  · rw [s 5 6 rfl rfl]; exact n1
  · rw [s 5 7 rfl rfl]; exact n2
  · rw [s 5 9 rfl rfl]; exact n3
  · rw [s 5 10 rfl rfl]; exact n4
  · rw [s 1 1 rfl rfl]; exact n5
  · rw [r 2 (fun _ => rfl) (fun _ => rfl)]; exact n6
  · exact hn7
  · rw [r 10 (fun _ => rfl) (fun _ => rfl)]; exact n8
  · rw [s 5 7 rfl rfl, r 11 (fun _ => rfl) (fun _ => rfl)]; exact n9
  · rw [r 21 (fun _ => rfl) (fun _ => rfl)]; exact n10
  · rw [r 22 (fun _ => rfl) (fun _ => rfl)]; exact n11
  · rw [s 29 4 rfl rfl]; exact n12
  · rw [r 30 (fun _ => rfl) (fun _ => rfl), r 31 (fun _ => rfl) (fun _ => rfl), r 32 (fun _ => rfl) (fun _ => rfl)]; exact n13
def E_pr (k j : Nat) : Bool := match k with
  | 33 => decide (j = 8)
  | 5 => decide (j = 6)
  | 41 => true
  | 10 => true
  | _ => false
theorem Rel.pr {w v : Wd} (h : Rel w) (s : simX E_pr w v) (hs1 : v.1 33 8 = v.1 5 6) (hr3 : v.1 41 = v.1 10) (hn1 : nb (v.1 5 6) 0 24) (hn8 : (∀ t, t < 14 → ∀ i, bt (v.1 10 t) i = true → i < 14 ∧ i ≠ t)) : Rel v := by
  obtain ⟨⟨h1, h2, h3, h4, h5, h6, h7, h8, h9, h10, h11, h12, h13, h14, h15, h16, h17, h18⟩, hb1, hb2, hb3, n0, n1, n2, n3, n4, n5, n6, n7, n8, n9, n10, n11, n12, n13⟩ := h
  have r : ∀ k, (∀ j, sc k j = false) → (∀ j, E_pr k j = false) → v.1 k = w.1 k := fun k hk he => s.row k hk he
  refine ⟨⟨?_, ?_, ?_, ?_, ?_, ?_, ?_, ?_, ?_, ?_, ?_, ?_, ?_, ?_, ?_, ?_, ?_, ?_⟩, ?_, ?_, ?_, ?_, ?_, ?_, ?_, ?_, ?_, ?_, ?_, ?_, ?_, ?_, ?_, ?_, ?_⟩
  · rw [s 33 0 rfl rfl, s 5 0 rfl rfl, h1]
  · exact hs1
  · rw [s 33 11 rfl rfl, s 5 7 rfl rfl, h3]
  · rw [s 33 13 rfl rfl, s 5 9 rfl rfl, h4]
  · rw [s 33 14 rfl rfl, s 5 10 rfl rfl, h5]
  · rw [s 33 15 rfl rfl, s 1 1 rfl rfl, h6]
  · rw [s 33 35 rfl rfl, s 29 4 rfl rfl, h7]
  · rw [r 44 (fun _ => rfl) (fun _ => rfl), r 2 (fun _ => rfl) (fun _ => rfl), h8]
  · rw [r 39 (fun _ => rfl) (fun _ => rfl), r 8 (fun _ => rfl) (fun _ => rfl), h9]
  · rw [r 40 (fun _ => rfl) (fun _ => rfl), r 9 (fun _ => rfl) (fun _ => rfl), h10]
  · exact hr3
  · rw [r 43 (fun _ => rfl) (fun _ => rfl), r 11 (fun _ => rfl) (fun _ => rfl), h12]
  · rw [r 49 (fun _ => rfl) (fun _ => rfl), r 21 (fun _ => rfl) (fun _ => rfl), h13]
  · rw [r 50 (fun _ => rfl) (fun _ => rfl), r 22 (fun _ => rfl) (fun _ => rfl), h14]
  · rw [r 53 (fun _ => rfl) (fun _ => rfl), r 28 (fun _ => rfl) (fun _ => rfl), h15]
  · rw [r 54 (fun _ => rfl) (fun _ => rfl), r 30 (fun _ => rfl) (fun _ => rfl), h16]
  · rw [r 55 (fun _ => rfl) (fun _ => rfl), r 31 (fun _ => rfl) (fun _ => rfl), h17]
  · rw [r 56 (fun _ => rfl) (fun _ => rfl), r 32 (fun _ => rfl) (fun _ => rfl), h18]
  · unfold RBx at *
    rw [r 35 (fun _ => rfl) (fun _ => rfl), r 36 (fun _ => rfl) (fun _ => rfl), r 37 (fun _ => rfl) (fun _ => rfl), r 38 (fun _ => rfl) (fun _ => rfl), r 34 (fun _ => rfl) (fun _ => rfl), r 6 (fun _ => rfl) (fun _ => rfl), r 7 (fun _ => rfl) (fun _ => rfl)]
    exact hb1
  · unfold RBn at *
    rw [s 5 0 rfl rfl, r 6 (fun _ => rfl) (fun _ => rfl), r 7 (fun _ => rfl) (fun _ => rfl)]
    exact hb2
  · unfold RBm at *
    rw [s 5 0 rfl rfl, r 7 (fun _ => rfl) (fun _ => rfl)]
    exact hb3
  · rw [s 5 0 rfl rfl]; exact n0
  · exact hn1
  · rw [s 5 7 rfl rfl]; exact n2
  · rw [s 5 9 rfl rfl]; exact n3
  · rw [s 5 10 rfl rfl]; exact n4
  · rw [s 1 1 rfl rfl]; exact n5
  · rw [r 2 (fun _ => rfl) (fun _ => rfl)]; exact n6
  · rw [r 8 (fun _ => rfl) (fun _ => rfl), r 9 (fun _ => rfl) (fun _ => rfl)]; exact n7
  · exact hn8
  · rw [s 5 7 rfl rfl, r 11 (fun _ => rfl) (fun _ => rfl)]; exact n9
  · rw [r 21 (fun _ => rfl) (fun _ => rfl)]; exact n10
  · rw [r 22 (fun _ => rfl) (fun _ => rfl)]; exact n11
  · rw [s 29 4 rfl rfl]; exact n12
  · rw [r 30 (fun _ => rfl) (fun _ => rfl), r 31 (fun _ => rfl) (fun _ => rfl), r 32 (fun _ => rfl) (fun _ => rfl)]; exact n13
def E_tm (k j : Nat) : Bool := match k with
  | 33 => decide (j = 11)
  | 5 => decide (j = 7)
  | 43 => true
  | 11 => true
  | _ => false
theorem Rel.tm {w v : Wd} (h : Rel w) (s : simX E_tm w v) (hs2 : v.1 33 11 = v.1 5 7) (hr4 : v.1 43 = v.1 11) (hn2 : (∀ i, bt (v.1 5 7) i = true → 1 ≤ i ∧ i ≤ 12)) (hn9 : (∀ k, k < 13 → bt (v.1 5 7) k = true → nb (v.1 11 (4 * k)) 0 40 ∧ nb (v.1 11 (4 * k + 1)) 0 40 ∧ nb (v.1 11 (4 * k + 2)) 0 2000 ∧ nb (v.1 11 (4 * k + 3)) 0 2000)) : Rel v := by
  obtain ⟨⟨h1, h2, h3, h4, h5, h6, h7, h8, h9, h10, h11, h12, h13, h14, h15, h16, h17, h18⟩, hb1, hb2, hb3, n0, n1, n2, n3, n4, n5, n6, n7, n8, n9, n10, n11, n12, n13⟩ := h
  have r : ∀ k, (∀ j, sc k j = false) → (∀ j, E_tm k j = false) → v.1 k = w.1 k := fun k hk he => s.row k hk he
  refine ⟨⟨?_, ?_, ?_, ?_, ?_, ?_, ?_, ?_, ?_, ?_, ?_, ?_, ?_, ?_, ?_, ?_, ?_, ?_⟩, ?_, ?_, ?_, ?_, ?_, ?_, ?_, ?_, ?_, ?_, ?_, ?_, ?_, ?_, ?_, ?_, ?_⟩
  · rw [s 33 0 rfl rfl, s 5 0 rfl rfl, h1]
  · rw [s 33 8 rfl rfl, s 5 6 rfl rfl, h2]
  · exact hs2
  · rw [s 33 13 rfl rfl, s 5 9 rfl rfl, h4]
  · rw [s 33 14 rfl rfl, s 5 10 rfl rfl, h5]
  · rw [s 33 15 rfl rfl, s 1 1 rfl rfl, h6]
  · rw [s 33 35 rfl rfl, s 29 4 rfl rfl, h7]
  · rw [r 44 (fun _ => rfl) (fun _ => rfl), r 2 (fun _ => rfl) (fun _ => rfl), h8]
  · rw [r 39 (fun _ => rfl) (fun _ => rfl), r 8 (fun _ => rfl) (fun _ => rfl), h9]
  · rw [r 40 (fun _ => rfl) (fun _ => rfl), r 9 (fun _ => rfl) (fun _ => rfl), h10]
  · rw [r 41 (fun _ => rfl) (fun _ => rfl), r 10 (fun _ => rfl) (fun _ => rfl), h11]
  · exact hr4
  · rw [r 49 (fun _ => rfl) (fun _ => rfl), r 21 (fun _ => rfl) (fun _ => rfl), h13]
  · rw [r 50 (fun _ => rfl) (fun _ => rfl), r 22 (fun _ => rfl) (fun _ => rfl), h14]
  · rw [r 53 (fun _ => rfl) (fun _ => rfl), r 28 (fun _ => rfl) (fun _ => rfl), h15]
  · rw [r 54 (fun _ => rfl) (fun _ => rfl), r 30 (fun _ => rfl) (fun _ => rfl), h16]
  · rw [r 55 (fun _ => rfl) (fun _ => rfl), r 31 (fun _ => rfl) (fun _ => rfl), h17]
  · rw [r 56 (fun _ => rfl) (fun _ => rfl), r 32 (fun _ => rfl) (fun _ => rfl), h18]
  · unfold RBx at *
    rw [r 35 (fun _ => rfl) (fun _ => rfl), r 36 (fun _ => rfl) (fun _ => rfl), r 37 (fun _ => rfl) (fun _ => rfl), r 38 (fun _ => rfl) (fun _ => rfl), r 34 (fun _ => rfl) (fun _ => rfl), r 6 (fun _ => rfl) (fun _ => rfl), r 7 (fun _ => rfl) (fun _ => rfl)]
    exact hb1
  · unfold RBn at *
    rw [s 5 0 rfl rfl, r 6 (fun _ => rfl) (fun _ => rfl), r 7 (fun _ => rfl) (fun _ => rfl)]
    exact hb2
  · unfold RBm at *
    rw [s 5 0 rfl rfl, r 7 (fun _ => rfl) (fun _ => rfl)]
    exact hb3
  · rw [s 5 0 rfl rfl]; exact n0
  · rw [s 5 6 rfl rfl]; exact n1
  · exact hn2
  · rw [s 5 9 rfl rfl]; exact n3
  · rw [s 5 10 rfl rfl]; exact n4
  · rw [s 1 1 rfl rfl]; exact n5
  · rw [r 2 (fun _ => rfl) (fun _ => rfl)]; exact n6
  · rw [r 8 (fun _ => rfl) (fun _ => rfl), r 9 (fun _ => rfl) (fun _ => rfl)]; exact n7
  · rw [r 10 (fun _ => rfl) (fun _ => rfl)]; exact n8
  · exact hn9
  · rw [r 21 (fun _ => rfl) (fun _ => rfl)]; exact n10
  · rw [r 22 (fun _ => rfl) (fun _ => rfl)]; exact n11
  · rw [s 29 4 rfl rfl]; exact n12
  · rw [r 30 (fun _ => rfl) (fun _ => rfl), r 31 (fun _ => rfl) (fun _ => rfl), r 32 (fun _ => rfl) (fun _ => rfl)]; exact n13
def E_sl (k j : Nat) : Bool := match k with
  | 33 => decide (j = 13)
  | 5 => decide (j = 9)
  | _ => false
theorem Rel.sl {w v : Wd} (h : Rel w) (s : simX E_sl w v) (hs3 : v.1 33 13 = v.1 5 9) (hn3 : nb (v.1 5 9) 0 99) : Rel v := by
  obtain ⟨⟨h1, h2, h3, h4, h5, h6, h7, h8, h9, h10, h11, h12, h13, h14, h15, h16, h17, h18⟩, hb1, hb2, hb3, n0, n1, n2, n3, n4, n5, n6, n7, n8, n9, n10, n11, n12, n13⟩ := h
  have r : ∀ k, (∀ j, sc k j = false) → (∀ j, E_sl k j = false) → v.1 k = w.1 k := fun k hk he => s.row k hk he
  refine ⟨⟨?_, ?_, ?_, ?_, ?_, ?_, ?_, ?_, ?_, ?_, ?_, ?_, ?_, ?_, ?_, ?_, ?_, ?_⟩, ?_, ?_, ?_, ?_, ?_, ?_, ?_, ?_, ?_, ?_, ?_, ?_, ?_, ?_, ?_, ?_, ?_⟩
  · rw [s 33 0 rfl rfl, s 5 0 rfl rfl, h1]
  · rw [s 33 8 rfl rfl, s 5 6 rfl rfl, h2]
  · rw [s 33 11 rfl rfl, s 5 7 rfl rfl, h3]
  · exact hs3
  · rw [s 33 14 rfl rfl, s 5 10 rfl rfl, h5]
  · rw [s 33 15 rfl rfl, s 1 1 rfl rfl, h6]
  · rw [s 33 35 rfl rfl, s 29 4 rfl rfl, h7]
  · rw [r 44 (fun _ => rfl) (fun _ => rfl), r 2 (fun _ => rfl) (fun _ => rfl), h8]
  · rw [r 39 (fun _ => rfl) (fun _ => rfl), r 8 (fun _ => rfl) (fun _ => rfl), h9]
  · rw [r 40 (fun _ => rfl) (fun _ => rfl), r 9 (fun _ => rfl) (fun _ => rfl), h10]
  · rw [r 41 (fun _ => rfl) (fun _ => rfl), r 10 (fun _ => rfl) (fun _ => rfl), h11]
  · rw [r 43 (fun _ => rfl) (fun _ => rfl), r 11 (fun _ => rfl) (fun _ => rfl), h12]
  · rw [r 49 (fun _ => rfl) (fun _ => rfl), r 21 (fun _ => rfl) (fun _ => rfl), h13]
  · rw [r 50 (fun _ => rfl) (fun _ => rfl), r 22 (fun _ => rfl) (fun _ => rfl), h14]
  · rw [r 53 (fun _ => rfl) (fun _ => rfl), r 28 (fun _ => rfl) (fun _ => rfl), h15]
  · rw [r 54 (fun _ => rfl) (fun _ => rfl), r 30 (fun _ => rfl) (fun _ => rfl), h16]
  · rw [r 55 (fun _ => rfl) (fun _ => rfl), r 31 (fun _ => rfl) (fun _ => rfl), h17]
  · rw [r 56 (fun _ => rfl) (fun _ => rfl), r 32 (fun _ => rfl) (fun _ => rfl), h18]
  · unfold RBx at *
    rw [r 35 (fun _ => rfl) (fun _ => rfl), r 36 (fun _ => rfl) (fun _ => rfl), r 37 (fun _ => rfl) (fun _ => rfl), r 38 (fun _ => rfl) (fun _ => rfl), r 34 (fun _ => rfl) (fun _ => rfl), r 6 (fun _ => rfl) (fun _ => rfl), r 7 (fun _ => rfl) (fun _ => rfl)]
    exact hb1
  · unfold RBn at *
    rw [s 5 0 rfl rfl, r 6 (fun _ => rfl) (fun _ => rfl), r 7 (fun _ => rfl) (fun _ => rfl)]
    exact hb2
  · unfold RBm at *
    rw [s 5 0 rfl rfl, r 7 (fun _ => rfl) (fun _ => rfl)]
    exact hb3
  · rw [s 5 0 rfl rfl]; exact n0
  · rw [s 5 6 rfl rfl]; exact n1
  · rw [s 5 7 rfl rfl]; exact n2
  · exact hn3
  · rw [s 5 10 rfl rfl]; exact n4
  · rw [s 1 1 rfl rfl]; exact n5
  · rw [r 2 (fun _ => rfl) (fun _ => rfl)]; exact n6
  · rw [r 8 (fun _ => rfl) (fun _ => rfl), r 9 (fun _ => rfl) (fun _ => rfl)]; exact n7
  · rw [r 10 (fun _ => rfl) (fun _ => rfl)]; exact n8
  · rw [s 5 7 rfl rfl, r 11 (fun _ => rfl) (fun _ => rfl)]; exact n9
  · rw [r 21 (fun _ => rfl) (fun _ => rfl)]; exact n10
  · rw [r 22 (fun _ => rfl) (fun _ => rfl)]; exact n11
  · rw [s 29 4 rfl rfl]; exact n12
  · rw [r 30 (fun _ => rfl) (fun _ => rfl), r 31 (fun _ => rfl) (fun _ => rfl), r 32 (fun _ => rfl) (fun _ => rfl)]; exact n13
def E_ga (k j : Nat) : Bool := match k with
  | 33 => decide (j = 14)
  | 5 => decide (j = 10)
  | _ => false
theorem Rel.ga {w v : Wd} (h : Rel w) (s : simX E_ga w v) (hs4 : v.1 33 14 = v.1 5 10) (hn4 : nb (v.1 5 10) 0 99) : Rel v := by
  obtain ⟨⟨h1, h2, h3, h4, h5, h6, h7, h8, h9, h10, h11, h12, h13, h14, h15, h16, h17, h18⟩, hb1, hb2, hb3, n0, n1, n2, n3, n4, n5, n6, n7, n8, n9, n10, n11, n12, n13⟩ := h
  have r : ∀ k, (∀ j, sc k j = false) → (∀ j, E_ga k j = false) → v.1 k = w.1 k := fun k hk he => s.row k hk he
  refine ⟨⟨?_, ?_, ?_, ?_, ?_, ?_, ?_, ?_, ?_, ?_, ?_, ?_, ?_, ?_, ?_, ?_, ?_, ?_⟩, ?_, ?_, ?_, ?_, ?_, ?_, ?_, ?_, ?_, ?_, ?_, ?_, ?_, ?_, ?_, ?_, ?_⟩
  · rw [s 33 0 rfl rfl, s 5 0 rfl rfl, h1]
  · rw [s 33 8 rfl rfl, s 5 6 rfl rfl, h2]
  · rw [s 33 11 rfl rfl, s 5 7 rfl rfl, h3]
  · rw [s 33 13 rfl rfl, s 5 9 rfl rfl, h4]
  · exact hs4
  · rw [s 33 15 rfl rfl, s 1 1 rfl rfl, h6]
  · rw [s 33 35 rfl rfl, s 29 4 rfl rfl, h7]
  · rw [r 44 (fun _ => rfl) (fun _ => rfl), r 2 (fun _ => rfl) (fun _ => rfl), h8]
  · rw [r 39 (fun _ => rfl) (fun _ => rfl), r 8 (fun _ => rfl) (fun _ => rfl), h9]
  · rw [r 40 (fun _ => rfl) (fun _ => rfl), r 9 (fun _ => rfl) (fun _ => rfl), h10]
  · rw [r 41 (fun _ => rfl) (fun _ => rfl), r 10 (fun _ => rfl) (fun _ => rfl), h11]
  · rw [r 43 (fun _ => rfl) (fun _ => rfl), r 11 (fun _ => rfl) (fun _ => rfl), h12]
  · rw [r 49 (fun _ => rfl) (fun _ => rfl), r 21 (fun _ => rfl) (fun _ => rfl), h13]
  · rw [r 50 (fun _ => rfl) (fun _ => rfl), r 22 (fun _ => rfl) (fun _ => rfl), h14]
  · rw [r 53 (fun _ => rfl) (fun _ => rfl), r 28 (fun _ => rfl) (fun _ => rfl), h15]
  · rw [r 54 (fun _ => rfl) (fun _ => rfl), r 30 (fun _ => rfl) (fun _ => rfl), h16]
  · rw [r 55 (fun _ => rfl) (fun _ => rfl), r 31 (fun _ => rfl) (fun _ => rfl), h17]
  · rw [r 56 (fun _ => rfl) (fun _ => rfl), r 32 (fun _ => rfl) (fun _ => rfl), h18]
  · unfold RBx at *
    rw [r 35 (fun _ => rfl) (fun _ => rfl), r 36 (fun _ => rfl) (fun _ => rfl), r 37 (fun _ => rfl) (fun _ => rfl), r 38 (fun _ => rfl) (fun _ => rfl), r 34 (fun _ => rfl) (fun _ => rfl), r 6 (fun _ => rfl) (fun _ => rfl), r 7 (fun _ => rfl) (fun _ => rfl)]
    exact hb1
  · unfold RBn at *
    rw [s 5 0 rfl rfl, r 6 (fun _ => rfl) (fun _ => rfl), r 7 (fun _ => rfl) (fun _ => rfl)]
    exact hb2
  · unfold RBm at *
    rw [s 5 0 rfl rfl, r 7 (fun _ => rfl) (fun _ => rfl)]
    exact hb3
  · rw [s 5 0 rfl rfl]; exact n0
  · rw [s 5 6 rfl rfl]; exact n1
  · rw [s 5 7 rfl rfl]; exact n2
  · rw [s 5 9 rfl rfl]; exact n3
  · exact hn4
  · rw [s 1 1 rfl rfl]; exact n5
  · rw [r 2 (fun _ => rfl) (fun _ => rfl)]; exact n6
  · rw [r 8 (fun _ => rfl) (fun _ => rfl), r 9 (fun _ => rfl) (fun _ => rfl)]; exact n7
  · rw [r 10 (fun _ => rfl) (fun _ => rfl)]; exact n8
  · rw [s 5 7 rfl rfl, r 11 (fun _ => rfl) (fun _ => rfl)]; exact n9
  · rw [r 21 (fun _ => rfl) (fun _ => rfl)]; exact n10
  · rw [r 22 (fun _ => rfl) (fun _ => rfl)]; exact n11
  · rw [s 29 4 rfl rfl]; exact n12
  · rw [r 30 (fun _ => rfl) (fun _ => rfl), r 31 (fun _ => rfl) (fun _ => rfl), r 32 (fun _ => rfl) (fun _ => rfl)]; exact n13
def E_bx (k j : Nat) : Bool := match k with
  | 33 => decide (j = 0)
  | 5 => decide (j = 0)
  | 6 => true
  | 7 => true
  | 34 => true
  | 35 => true
  | 36 => true
  | 37 => true
  | 38 => true
  | _ => false
theorem Rel.bx {w v : Wd} (h : Rel w) (s : simX E_bx w v) (hs0 : v.1 33 0 = v.1 5 0) (hn0 : (∀ i, 14 ≤ i → bt (v.1 5 0) i = false)) (hbx : RBx v) (hbn : RBn v) (hbm : RBm v) : Rel v := by
  obtain ⟨⟨h1, h2, h3, h4, h5, h6, h7, h8, h9, h10, h11, h12, h13, h14, h15, h16, h17, h18⟩, hb1, hb2, hb3, n0, n1, n2, n3, n4, n5, n6, n7, n8, n9, n10, n11, n12, n13⟩ := h
  have r : ∀ k, (∀ j, sc k j = false) → (∀ j, E_bx k j = false) → v.1 k = w.1 k := fun k hk he => s.row k hk he
  refine ⟨⟨?_, ?_, ?_, ?_, ?_, ?_, ?_, ?_, ?_, ?_, ?_, ?_, ?_, ?_, ?_, ?_, ?_, ?_⟩, hbx, hbn, hbm, ?_, ?_, ?_, ?_, ?_, ?_, ?_, ?_, ?_, ?_, ?_, ?_, ?_, ?_⟩
  · exact hs0
  · rw [s 33 8 rfl rfl, s 5 6 rfl rfl, h2]
  · rw [s 33 11 rfl rfl, s 5 7 rfl rfl, h3]
  · rw [s 33 13 rfl rfl, s 5 9 rfl rfl, h4]
  · rw [s 33 14 rfl rfl, s 5 10 rfl rfl, h5]
  · rw [s 33 15 rfl rfl, s 1 1 rfl rfl, h6]
  · rw [s 33 35 rfl rfl, s 29 4 rfl rfl, h7]
  · rw [r 44 (fun _ => rfl) (fun _ => rfl), r 2 (fun _ => rfl) (fun _ => rfl), h8]
  · rw [r 39 (fun _ => rfl) (fun _ => rfl), r 8 (fun _ => rfl) (fun _ => rfl), h9]
  · rw [r 40 (fun _ => rfl) (fun _ => rfl), r 9 (fun _ => rfl) (fun _ => rfl), h10]
  · rw [r 41 (fun _ => rfl) (fun _ => rfl), r 10 (fun _ => rfl) (fun _ => rfl), h11]
  · rw [r 43 (fun _ => rfl) (fun _ => rfl), r 11 (fun _ => rfl) (fun _ => rfl), h12]
  · rw [r 49 (fun _ => rfl) (fun _ => rfl), r 21 (fun _ => rfl) (fun _ => rfl), h13]
  · rw [r 50 (fun _ => rfl) (fun _ => rfl), r 22 (fun _ => rfl) (fun _ => rfl), h14]
  · rw [r 53 (fun _ => rfl) (fun _ => rfl), r 28 (fun _ => rfl) (fun _ => rfl), h15]
  · rw [r 54 (fun _ => rfl) (fun _ => rfl), r 30 (fun _ => rfl) (fun _ => rfl), h16]
  · rw [r 55 (fun _ => rfl) (fun _ => rfl), r 31 (fun _ => rfl) (fun _ => rfl), h17]
  · rw [r 56 (fun _ => rfl) (fun _ => rfl), r 32 (fun _ => rfl) (fun _ => rfl), h18]
  · exact hn0
  · rw [s 5 6 rfl rfl]; exact n1
  · rw [s 5 7 rfl rfl]; exact n2
  · rw [s 5 9 rfl rfl]; exact n3
  · rw [s 5 10 rfl rfl]; exact n4
  · rw [s 1 1 rfl rfl]; exact n5
  · rw [r 2 (fun _ => rfl) (fun _ => rfl)]; exact n6
  · rw [r 8 (fun _ => rfl) (fun _ => rfl), r 9 (fun _ => rfl) (fun _ => rfl)]; exact n7
  · rw [r 10 (fun _ => rfl) (fun _ => rfl)]; exact n8
  · rw [s 5 7 rfl rfl, r 11 (fun _ => rfl) (fun _ => rfl)]; exact n9
  · rw [r 21 (fun _ => rfl) (fun _ => rfl)]; exact n10
  · rw [r 22 (fun _ => rfl) (fun _ => rfl)]; exact n11
  · rw [s 29 4 rfl rfl]; exact n12
  · rw [r 30 (fun _ => rfl) (fun _ => rfl), r 31 (fun _ => rfl) (fun _ => rfl), r 32 (fun _ => rfl) (fun _ => rfl)]; exact n13
