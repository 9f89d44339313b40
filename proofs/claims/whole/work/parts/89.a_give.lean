/-! given: the search -/
def sN (w : Wd) (t : Nat) : Nat := (w.1 21 t).toInt.toNat
def rgN (w : Wd) (b : Nat) : Nat := (w.1 6 (9 * b + 3)).toInt.toNat
def difN (w : Wd) (t b : Nat) : Nat := ((sN w t : Int) - rgN w b).natAbs
def tch (w : Wd) (x b : Nat) : Bool := decide (ybI w x b 0 ≤ gpN w) && decide (ybI w x b 1 ≤ gpN w)
def suB (w : Wd) (t b : Nat) : Bool := bt (w.1 5 0) b && decide (difN w t b ≤ slN w)
def ngB (w : Wd) (t : Nat) (a : Nat → Nat) (b u : Nat) : Bool := decide (sN w u = 0) || (decide (a u ≠ b) && (!bt (w.1 22 t) u || tch w (a u) b))
def okG (w : Wd) (t : Nat) (a : Nat → Nat) (b : Nat) : Bool := suB w t b && alB (ngB w t a b) t
def dsum (w : Wd) (a : Nat → Nat) : Nat → Nat
  | 0 => 0
  | t + 1 => dsum w a t + (if sN w t = 0 then 0 else difN w t (a t))
def asg (a : Nat → Nat) (t b : Nat) : Nat → Nat := fun j => if j = t then b else a j
def kpG (q : Nat × Nat × (Nat → Nat)) (d : Nat) (a : Nat → Nat) : Nat × Nat × (Nat → Nat) := if q.1 = 0 ∨ d < q.2.1 then (q.1 + 1, d, a) else (q.1 + 1, q.2.1, q.2.2)
def srL (f : Nat → Nat × Nat × (Nat → Nat) → Nat × Nat × (Nat → Nat)) : Nat → Nat × Nat × (Nat → Nat) → Nat × Nat × (Nat → Nat)
  | 0, q => q
  | n + 1, q => f n (srL f n q)
def srG (w : Wd) : Nat → Nat → (Nat → Nat) → Nat × Nat × (Nat → Nat) → Nat × Nat × (Nat → Nat)
  | 0, _, a, q => kpG q (dsum w a 5) a
  | m + 1, t, a, q => if sN w t = 0 then srG w m (t + 1) a q else srL (fun b q => if okG w t a b then srG w m (t + 1) (asg a t b) q else q) 8 q
theorem srG_0 (w : Wd) (t : Nat) (a : Nat → Nat) (q : Nat × Nat × (Nat → Nat)) : srG w 0 t a q = kpG q (dsum w a 5) a := rfl
theorem srG_s (w : Wd) (m t : Nat) (a : Nat → Nat) (q : Nat × Nat × (Nat → Nat)) : srG w (m + 1) t a q = if sN w t = 0 then srG w m (t + 1) a q else srL (fun b q => if okG w t a b then srG w m (t + 1) (asg a t b) q else q) 8 q := rfl
theorem Rel.str {w : Wd} (h : Rel w) {t : Nat} (ht : t < 5) : w.1 21 t = nI (sN w t) ∧ sN w t ≤ 30 := by
  have := nb_N (h.n.2.2.2.2.2.2.2.2.2.2.1 t ht) (by decide)
  exact ⟨this.1, this.2.2⟩
theorem Rel.rdg {w : Wd} (h : Rel w) {b : Nat} (hb : b < 8) (tb : bt (w.1 5 0) b = true) : w.1 6 (9 * b + 3) = nI (rgN w b) ∧ rgN w b ≤ 30 := by
  obtain ⟨-, -, -, -, -, h3, -⟩ := h.2.2.1 b hb tb
  have := nb_N h3 (by decide)
  exact ⟨this.1, this.2.2⟩
theorem dif_b {w : Wd} (h : Rel w) {t b : Nat} (ht : t < 5) (hb : b < 8) (tb : bt (w.1 5 0) b = true) : difN w t b ≤ 30 := by
  have h1 := (h.str ht).2
  have h2 := (h.rdg hb tb).2
  unfold difN
  omega
def aOK (w : Wd) (a : Nat → Nat) (t : Nat) : Prop := ∀ u, u < t → 0 < sN w u → a u < 8 ∧ bt (w.1 5 0) (a u) = true
theorem dsum_b {w : Wd} (h : Rel w) {a : Nat → Nat} : ∀ t, t ≤ 5 → aOK w a t → dsum w a t ≤ 30 * t
  | 0, _, _ => Nat.le_refl _
  | t + 1, ht, ha => by
    have ih := dsum_b h t (by omega) (fun u hu => ha u (by omega))
    rw [dsum]
    split
    · omega
    · obtain ⟨b1, b2⟩ := ha t (by omega) (by omega)
      have := dif_b h (t := t) (by omega) b1 b2
      omega
theorem dsum_c {w : Wd} {a b : Nat → Nat} : ∀ t, (∀ u, u < t → a u = b u) → dsum w a t = dsum w b t
  | 0, _ => rfl
  | t + 1, h => by rw [dsum, dsum, dsum_c t (fun u hu => h u (by omega)), h t (by omega)]
theorem asg_lt {a : Nat → Nat} {t b u : Nat} (h : u < t) : asg a t b u = a u := by unfold asg; rw [if_neg (by omega)]
theorem asg_t (a : Nat → Nat) (t b : Nat) : asg a t b t = b := by unfold asg; rw [if_pos rfl]
theorem dsum_u {w : Wd} {a : Nat → Nat} {t b : Nat} (hs : ¬ sN w t = 0) : dsum w (asg a t b) (t + 1) = dsum w a t + difN w t b := by
  rw [dsum, if_neg hs, asg_t, dsum_c t (fun u hu => asg_lt hu)]
theorem okG_su {w : Wd} {t : Nat} {a : Nat → Nat} {b : Nat} (h : okG w t a b = true) : bt (w.1 5 0) b = true := by
  unfold okG suB at h
  simp only [Bool.and_eq_true] at h
  exact h.1.1
theorem aOK_u {w : Wd} {a : Nat → Nat} {t b : Nat} (ha : aOK w a t) (hb : b < 8) (ho : okG w t a b = true) : aOK w (asg a t b) (t + 1) := by
  intro u hu hs
  by_cases e : u = t
  · subst e; rw [asg_t]; exact ⟨hb, okG_su ho⟩
  · rw [asg_lt (by omega)]; exact ha u (by omega) hs
theorem aOK_s {w : Wd} {a : Nat → Nat} {t : Nat} (ha : aOK w a t) (hs : sN w t = 0) : aOK w a (t + 1) := by
  intro u hu hs2
  by_cases e : u = t
  · subst e; omega
  · exact ha u (by omega) hs2
/-- how far the numbers go -/
theorem kpG_b {w : Wd} (h : Rel w) {a : Nat → Nat} (ha : aOK w a 5) {q : Nat × Nat × (Nat → Nat)} (hq : q.2.1 ≤ 1000) : (kpG q (dsum w a 5) a).1 = q.1 + 1 ∧ (kpG q (dsum w a 5) a).2.1 ≤ 1000 := by
  have := dsum_b h 5 (Nat.le_refl _) ha
  unfold kpG
  split
  · exact ⟨rfl, by show dsum w a 5 ≤ 1000; omega⟩
  · exact ⟨rfl, hq⟩
theorem srG_b {w : Wd} (h : Rel w) : ∀ m t, t + m = 5 → ∀ a q, aOK w a t → q.2.1 ≤ 1000 → q.1 ≤ (srG w m t a q).1 ∧ (srG w m t a q).1 ≤ q.1 + 8 ^ m ∧ (srG w m t a q).2.1 ≤ 1000
  | 0, t, ht, a, q, ha, hq => by
    have : t = 5 := by omega
    subst this
    obtain ⟨b1, b2⟩ := kpG_b h ha hq
    rw [srG_0]
    exact ⟨by omega, by rw [b1]; exact Nat.le_refl _, b2⟩
  | m + 1, t, ht, a, q, ha, hq => by
    have ih := srG_b h m (t + 1) (by omega)
    have e8 : 8 ^ (m + 1) = 8 * 8 ^ m := by rw [Nat.pow_succ, Nat.mul_comm]
    have p8 : 0 < 8 ^ m := Nat.pow_pos (by decide)
    rw [srG_s]
    split
    · rename_i hs
      obtain ⟨b1, b2, b3⟩ := ih a q (aOK_s ha hs) hq
      exact ⟨b1, by omega, b3⟩
    · have L : ∀ n, n ≤ 8 → q.1 ≤ (srL (fun b q => if okG w t a b then srG w m (t + 1) (asg a t b) q else q) n q).1 ∧ (srL (fun b q => if okG w t a b then srG w m (t + 1) (asg a t b) q else q) n q).1 ≤ q.1 + n * 8 ^ m ∧ (srL (fun b q => if okG w t a b then srG w m (t + 1) (asg a t b) q else q) n q).2.1 ≤ 1000 := by
        intro n
        induction n with
        | zero => intro _; exact ⟨Nat.le_refl _, by show q.1 ≤ _; omega, hq⟩
        | succ n ihn =>
          intro hn
          obtain ⟨c1, c2, c3⟩ := ihn (by omega)
          rw [srL]
          have em : (n + 1) * 8 ^ m = n * 8 ^ m + 8 ^ m := by rw [Nat.add_mul, Nat.one_mul]
          split
          · rename_i ho
            obtain ⟨d1, d2, d3⟩ := ih (asg a t n) _ (aOK_u ha (by omega) ho) c3
            exact ⟨by omega, by omega, d3⟩
          · exact ⟨c1, by omega, c3⟩
      obtain ⟨c1, c2, c3⟩ := L 8 (Nat.le_refl _)
      exact ⟨c1, by omega, c3⟩
