/-! THE RELATION between the class's cells and the reference's. -/
/-- what is written for a call alone, and means nothing after it -/
def sc (k j : Nat) : Bool := match k with
  | 3 => decide (2 ≤ j)
  | 4 => true
  | 13 => true
  | 14 => true
  | 15 => true
  | 16 => true
  | 18 => true
  | 20 => decide (7 ≤ j)
  | 23 => true
  | 24 => true
  | 25 => true
  | 26 => true
  | 33 => (decide (17 ≤ j) && decide (j ≤ 23)) || decide (j = 32) || decide (j = 33)
  | 42 => true
  | 45 => true
  | 46 => true
  | 47 => true
  | 48 => true
  | 51 => true
  | 52 => true
  | _ => false
def sim (w v : Wd) : Prop := ∀ k j, sc k j = false → v.1 k j = w.1 k j
theorem sim.rf (w : Wd) : sim w w := fun _ _ _ => rfl
theorem sim.tr {u v w : Wd} (h1 : sim u v) (h2 : sim v w) : sim u w := fun k j h => (h2 k j h).trans (h1 k j h)
theorem sim.sy {u v : Wd} (h : sim u v) : sim v u := fun k j e => (h k j e).symm
theorem sim.wA {w v : Wd} (h : sim w v) {k : Nat} (f : Nat → Int32) (hk : ∀ j, sc k j = false → f j = v.1 k j) : sim w (wA v k f) := by
  intro a j e
  by_cases ha : a = k
  · subst ha
    rw [wA_s, hk j e]
    exact h a j e
  · rw [wA_n _ _ ha]
    exact h a j e
theorem sim.row {w v : Wd} (h : sim w v) (k : Nat) (hk : ∀ j, sc k j = false) : v.1 k = w.1 k := funext fun j => h k j (hk j)
/-- small numbers -/
def nb (x : Int32) (a b : Nat) : Prop := ∃ n : Nat, a ≤ n ∧ n ≤ b ∧ x = nI n
/-- the two states are one -/
def RE (w : Wd) : Prop := w.1 33 0 = w.1 5 0 ∧ w.1 33 8 = w.1 5 6 ∧ w.1 33 11 = w.1 5 7 ∧ w.1 33 13 = w.1 5 9 ∧ w.1 33 14 = w.1 5 10 ∧ w.1 33 15 = w.1 1 1 ∧ w.1 33 35 = w.1 29 4 ∧
  w.1 44 = w.1 2 ∧ w.1 39 = w.1 8 ∧ w.1 40 = w.1 9 ∧ w.1 41 = w.1 10 ∧ w.1 43 = w.1 11 ∧ w.1 49 = w.1 21 ∧ w.1 50 = w.1 22 ∧ w.1 53 = w.1 28 ∧ w.1 54 = w.1 30 ∧ w.1 55 = w.1 31 ∧ w.1 56 = w.1 32
/-- bundles and boxes -/
def RBx (w : Wd) : Prop := (∀ t, t < 14 → w.1 35 t = w.1 7 (4 * t) ∧ w.1 36 t = w.1 7 (4 * t + 1) ∧ w.1 37 t = w.1 7 (4 * t + 2) ∧ w.1 38 t = w.1 7 (4 * t + 3)) ∧ ∀ b, b < 8 → ∀ k, k < 7 → w.1 34 (7 * b + k) = w.1 6 (9 * b + 2 + k)
/-- a told bundle -/
def RBn (w : Wd) : Prop := ∀ b, b < 8 → bt (w.1 5 0) b = true →
  w.1 6 (9 * b) = w.1 7 (4 * b) ∧ w.1 6 (9 * b + 1) = w.1 7 (4 * b + 1) ∧ nb (w.1 6 (9 * b)) 0 999 ∧ nb (w.1 6 (9 * b + 1)) 0 999 ∧ nb (w.1 6 (9 * b + 2)) 0 1 ∧ nb (w.1 6 (9 * b + 3)) 1 30 ∧ nb (w.1 6 (9 * b + 4)) 1 20 ∧ nb (w.1 6 (9 * b + 5)) 1 500 ∧ nb (w.1 6 (9 * b + 6)) 0 40 ∧ nb (w.1 6 (9 * b + 7)) 0 1 ∧ nb (w.1 6 (9 * b + 8)) 0 60 ∧
  (w.1 6 (9 * b + 2) = 0 → w.1 7 (4 * b + 2) = w.1 6 (9 * b + 5) ∧ w.1 7 (4 * b + 3) = w.1 6 (9 * b + 3) * w.1 6 (9 * b + 4)) ∧ (w.1 6 (9 * b + 2) = 1 → w.1 7 (4 * b + 3) = w.1 6 (9 * b + 5) ∧ w.1 7 (4 * b + 2) = w.1 6 (9 * b + 3) * w.1 6 (9 * b + 4))
def RBm (w : Wd) : Prop := ∀ t, 8 ≤ t → t < 14 → bt (w.1 5 0) t = true → nb (w.1 7 (4 * t)) 0 999 ∧ nb (w.1 7 (4 * t + 1)) 0 999 ∧ nb (w.1 7 (4 * t + 2)) 1 999 ∧ nb (w.1 7 (4 * t + 3)) 1 999
/-- numbers in their bounds -/
def RN (w : Wd) : Prop := (∀ i, 14 ≤ i → bt (w.1 5 0) i = false) ∧ nb (w.1 5 6) 0 24 ∧ (∀ i, bt (w.1 5 7) i = true → 1 ≤ i ∧ i ≤ 12) ∧ nb (w.1 5 9) 0 99 ∧ nb (w.1 5 10) 0 99 ∧ nb (w.1 1 1) 0 200 ∧ (∀ j, nb (w.1 2 j) 0 255) ∧
  (∀ t, t < 14 → nb (w.1 8 t) 0 2000 ∧ nb (w.1 9 t) 0 2000) ∧ (∀ t, t < 14 → ∀ i, bt (w.1 10 t) i = true → i < 14 ∧ i ≠ t) ∧ (∀ k, k < 13 → bt (w.1 5 7) k = true → nb (w.1 11 (4 * k)) 0 40 ∧ nb (w.1 11 (4 * k + 1)) 0 40 ∧ nb (w.1 11 (4 * k + 2)) 0 2000 ∧ nb (w.1 11 (4 * k + 3)) 0 2000) ∧
  (∀ t, t < 5 → nb (w.1 21 t) 0 30) ∧ (∀ t, t < 5 → ∀ i, bt (w.1 22 t) i = true → i < 5) ∧ nb (w.1 29 4) 0 8 ∧ (∀ p, p < 8 → nb (w.1 30 p) 0 1 ∧ nb (w.1 31 p) 0 60 ∧ ∀ i, bt (w.1 32 p) i = true → i < 8)
def Rel (w : Wd) : Prop := RE w ∧ RBx w ∧ RBn w ∧ RBm w ∧ RN w
theorem nb_0 {b : Nat} : nb 0 0 b := ⟨0, Nat.le_refl _, Nat.zero_le _, rfl⟩
theorem RE.sim {w v : Wd} (s : sim w v) (h : RE w) : RE v := by
  obtain ⟨h1, h2, h3, h4, h5, h6, h7, h8, h9, h10, h11, h12, h13, h14, h15, h16, h17, h18⟩ := h
  have r : ∀ k, (∀ j, sc k j = false) → v.1 k = w.1 k := fun k hk => s.row k hk
  refine ⟨?_, ?_, ?_, ?_, ?_, ?_, ?_, ?_, ?_, ?_, ?_, ?_, ?_, ?_, ?_, ?_, ?_, ?_⟩
  · rw [s 33 0 rfl, s 5 0 rfl, h1]
  · rw [s 33 8 rfl, s 5 6 rfl, h2]
  · rw [s 33 11 rfl, s 5 7 rfl, h3]
  · rw [s 33 13 rfl, s 5 9 rfl, h4]
  · rw [s 33 14 rfl, s 5 10 rfl, h5]
  · rw [s 33 15 rfl, s 1 1 rfl, h6]
  · rw [s 33 35 rfl, s 29 4 rfl, h7]
  · rw [r 44 (fun _ => rfl), r 2 (fun _ => rfl), h8]
  · rw [r 39 (fun _ => rfl), r 8 (fun _ => rfl), h9]
  · rw [r 40 (fun _ => rfl), r 9 (fun _ => rfl), h10]
  · rw [r 41 (fun _ => rfl), r 10 (fun _ => rfl), h11]
  · rw [r 43 (fun _ => rfl), r 11 (fun _ => rfl), h12]
  · rw [r 49 (fun _ => rfl), r 21 (fun _ => rfl), h13]
  · rw [r 50 (fun _ => rfl), r 22 (fun _ => rfl), h14]
  · rw [r 53 (fun _ => rfl), r 28 (fun _ => rfl), h15]
  · rw [r 54 (fun _ => rfl), r 30 (fun _ => rfl), h16]
  · rw [r 55 (fun _ => rfl), r 31 (fun _ => rfl), h17]
  · rw [r 56 (fun _ => rfl), r 32 (fun _ => rfl), h18]
theorem Rel.sim {w v : Wd} (s : sim w v) (h : Rel w) : Rel v := by
  obtain ⟨h1, h2, h3, h4, h5⟩ := h
  have r : ∀ k, (∀ j, sc k j = false) → v.1 k = w.1 k := fun k hk => s.row k hk
  have e5 : ∀ j, v.1 5 j = w.1 5 j := fun j => s 5 j rfl
  have e1 : v.1 1 1 = w.1 1 1 := s 1 1 rfl
  have e29 : v.1 29 4 = w.1 29 4 := s 29 4 rfl
  refine ⟨h1.sim s, ?_, ?_, ?_, ?_⟩
  · unfold RBx at *
    rw [r 35 (fun _ => rfl), r 36 (fun _ => rfl), r 37 (fun _ => rfl), r 38 (fun _ => rfl), r 34 (fun _ => rfl), r 6 (fun _ => rfl), r 7 (fun _ => rfl)]
    exact h2
  · unfold RBn at *
    rw [e5, r 6 (fun _ => rfl), r 7 (fun _ => rfl)]
    exact h3
  · unfold RBm at *
    rw [e5, r 7 (fun _ => rfl)]
    exact h4
  · unfold RN at *
    rw [e5, e5, e5, e5, e5, e1, e29, r 2 (fun _ => rfl), r 8 (fun _ => rfl), r 9 (fun _ => rfl), r 10 (fun _ => rfl), r 11 (fun _ => rfl), r 21 (fun _ => rfl), r 22 (fun _ => rfl), r 30 (fun _ => rfl), r 31 (fun _ => rfl), r 32 (fun _ => rfl)]
    exact h5
/-- a call of both: one answer, and the states stay one -/
def Agree (f g : Wd → Option (Int32 × Wd)) (w : Wd) : Prop := ∃ (a : Int32) (w1 w2 : Wd), f w = some (a, w1) ∧ g w1 = some (a, w2) ∧ Rel w2
/-- a question: both answer a, and nothing that lasts has changed -/
theorem Agree.ask {f g : Wd → Option (Int32 × Wd)} {w : Wd} {a : Int32} (h : Rel w) (hf : ∃ w1, f w = some (a, w1) ∧ sim w w1) (hg : ∀ v, Rel v → sim w v → ∃ w2, g v = some (a, w2) ∧ sim v w2) : Agree f g w := by
  obtain ⟨w1, e1, s1⟩ := hf
  obtain ⟨w2, e2, s2⟩ := hg w1 (h.sim s1) s1
  exact ⟨a, w1, w2, e1, e2, (h.sim s1).sim s2⟩
