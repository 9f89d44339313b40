/-! THE CLAIM OUT OF ONE WALK OF THE LAW'S BODY. Your part is whole_start (and what it stands on); all else here is the same for every law, but numbers. -/
def R_law : String := "BentFurrowsLaw"
def lw_P (b : Addr) (xs : List Int32) (args : Array Value) (s : State) : Prop := args = #[.ref b] ∧ s.IntsAt b xs ∧ xs.length ≤ 256 ∧ (Jvm.Cond.and given_1 narrow_1).before args s = true
def lw_Q (_ : Array Value) (s : State) (o : Outcome) (t : State) : Prop := o = .returned (some (.int 1)) ∧ Framed s o t [] 600000 7302250
def lw_Z (below : List Frame) (a : Array Value) (s : State) : State → Prop := fun t => ∃ o, t.status = .running ∧ Ended t below o ∧ lw_Q a s o t
/-- the law's own end, with 1 on the stack, nothing written that was there before, its room as the claim has it -/
theorem lw_ret {p : Program} {l : Launch} {e : Env} {s : State} {m : MethodId} {below : List Frame} {meth : Method} {c : Code} {b : Nat} (hx : p.tables.exec = Jvm.exec) (hb : c.code = code) (hr : meth.sig.returnType = ret) (hlocks : meth.locks = false) {pc : Nat} {H : Heap} {ls : Array Slot} (hdg : decode code pc = .ok (.ireturn, 1)) : W p l e room_1 s m #[Value.ref b] below meth c H [] 600000 7302250 (lw_Z below #[Value.ref b] s) (F0 m pc ls [.int 1]) := by
  intro T hT X
  obtain ⟨fs, hret, hrun, hended, hW, hframe⟩ := X.leave (v := some (.int 1)) (hlocks := hlocks) (fun h => by rw [hr] at h; cases h)
  have hmeth' : T.vm.method? m = some meth := X.method'
  refine ⟨T.setFrames fs, ?_, .returned (some (.int 1)), hrun, hended, rfl, ⟨_, rfl⟩, hW, hframe⟩
  jvm_step X.here [X.here.top, hx, hb, hdg, hmeth', hr, ret, narrow_b1]
  (try refine ⟨rfl, ?_⟩); (try refine ⟨rfl, ?_⟩)
  first | (intro acts; rw [hret _ acts rfl rfl rfl]) | rw [hret _ _ rfl rfl rfl]
  exact Steps.refl _
/-- what holds at the law's entry: the machine, the code, the tables' words (any of lw_tbl by 'hts w (by decide +kernel)'), the script of L ints xs at the cell b, what the Statement gives of the start (any of its parts by flat_of_before) -/
def lw_At (p : Program) (s : State) (m : MethodId) (meth : Method) (c : Code) (b L : Nat) (xs : Nat → Int32) : Prop :=
  p.tables.exec = Jvm.exec ∧ c.code = code ∧ meth.sig.returnType = ret ∧ c.maxLocals = 4 ∧ s.vm.findClass R_law = some m.cls ∧ (∀ w ∈ lw_tbl, w.before #[Value.ref b] s = true) ∧ va_X b L xs s s.heap ∧ b < s.heap.size ∧ meth.locks = false ∧ (Jvm.Cond.and given_1 narrow_1).before #[Value.ref b] s = true
/-- the law's own end -/
def lEnd (X : bX) : Prop := match X with
  | (_, _, _, R, s, _, args, below, meth, _, cells, slots, Qf, A, _, _, _, _, _) => R = room_1 ∧ (∃ b : Nat, args = #[Value.ref b]) ∧ meth.sig.returnType = ret ∧ Qf = lw_Z below args s ∧ cells ≤ 600000 ∧ slots ≤ 7302250 ∧ ∀ q, A q → s.heap.size ≤ q
/-- the script: number 300 -/
def scr (xs : Nat → Int32) (Ls : Nat) (X : bX) : Prop := match X with
  | (_, _, _, _, s, _, _, _, _, _, _, _, _, A, _, _, _, ad, _) => va_X (ad 300) Ls xs s s.heap ∧ ad 300 < s.heap.size ∧ ¬ A (ad 300)
section LAWR
variable {cc : ByteArray} {nL d pc : Nat} {own : String} {X : bX} {L : List (Option Value)} {S : List Value} {w : Wd} {xs : Nat → Int32} {Ls : Nat}
theorem V_lret (hX : bOk code nL own d X) (hE : lEnd X) {x : Int32} (h1 : x = 1) (hd : decode code pc = .ok (.ireturn, 1)) : bV X pc L [.int x] w := by
  obtain ⟨p, l, e, R, s, m, args, below, meth, c, cells, slots, Qf, A, dC, dI, cA, ad, adV⟩ := X
  obtain ⟨hx, hb, hml, hown, hts, hK, hA, hlk, hfr, hlo, hce, hsl, hSt, hI, hAk⟩ := hX
  obtain ⟨rfl, ⟨b, rfl⟩, hr, rfl, h2, h3, h4⟩ := hE
  subst h1
  intro H locs ls hP hS hl
  refine va_forget (fun q hq => h4 _ (hS.2.2 q hq)) ?_
  refine W.widen (k := 600000) (n := 7302250) h2 h3 ?_
  exact lw_ret hx hb hr hlk hd
theorem V_slen (hX : bOk cc nL own d X) (hs : scr xs Ls X) (hd : decode cc pc = .ok (.arraylength, 1)) (k : bV X (pc + 1) L (.int (nI Ls) :: S) w) : bV X pc L (.ref 300 :: S) w := by
  obtain ⟨p, l, e, R, s, m, args, below, meth, c, cells, slots, Qf, A, dC, dI, cA, ad, adV⟩ := X
  obtain ⟨hx, hb, hml, hown, hts, hK, hA, hlk, hfr, hlo, hce, hsl, hSt, hI, hAk⟩ := hX
  obtain ⟨h1, h2, h3⟩ := hs
  intro H locs ls hP hS hl
  exact va_slen hx hb h1 h2 h3 hS hd (k H locs ls hP hS hl)
theorem V_sld (hX : bOk cc nL own d X) (hs : scr xs Ls X) {i : Int32} (hi : vp_in i Ls) (hd : decode cc pc = .ok (.iaload, 1)) (k : bV X (pc + 1) L (.int (xs (ix i)) :: S) w) : bV X pc L (.int i :: .ref 300 :: S) w := by
  obtain ⟨p, l, e, R, s, m, args, below, meth, c, cells, slots, Qf, A, dC, dI, cA, ad, adV⟩ := X
  obtain ⟨hx, hb, hml, hown, hts, hK, hA, hlk, hfr, hlo, hce, hsl, hSt, hI, hAk⟩ := hX
  obtain ⟨h1, h2, h3⟩ := hs
  intro H locs ls hP hS hl
  exact va_sld hx hb h1 h2 h3 hS hi hd (k H locs ls hP hS hl)
end LAWR
def f_L_law_18 (xs : Nat → Int32) (Ls : Nat) : Nat → Int32 → Wd → Option (Int32 × Wd)
  | 0, _, _ => none
  | n + 1, x3, w => if ((nI Ls) - 4) < x3 then
        (some (1, w))
      else
        (if inB x3 Ls then (if ((xs (ix x3)) &&& 31) = 0 then
          (if inB (x3 + 1) Ls then (if inB (x3 + 2) Ls then (if inB (x3 + 3) Ls then (Option.bind (f_X9_write ((jlshl (Int32.toInt64 (xs (ix (x3 + 1)))) 32) ||| ((Int32.toInt64 (xs (ix (x3 + 2)))) &&& 4294967295)) (xs (ix (x3 + 3))) w) fun q1 =>
          if inB (x3 + 1) Ls then (if inB (x3 + 2) Ls then (if inB (x3 + 3) Ls then (Option.bind (f_X10_write ((jlshl (Int32.toInt64 (xs (ix (x3 + 1)))) 32) ||| ((Int32.toInt64 (xs (ix (x3 + 2)))) &&& 4294967295)) (xs (ix (x3 + 3))) q1.2) fun q2 =>
          if q1.1 = q2.1 then
            (f_L_law_18 xs Ls n (x3 + 4) q2.2)
          else
            (some (0, q2.2))) else none) else none) else none) else none) else none) else none)
        else if ((xs (ix x3)) &&& 31) = 1 then
          (Option.bind (f_X9_erase w) fun q1 =>
          Option.bind (f_X10_erase q1.2) fun q2 =>
          if q1.1 = q2.1 then
            (f_L_law_18 xs Ls n (x3 + 4) q2.2)
          else
            (some (0, q2.2)))
        else if ((xs (ix x3)) &&& 31) = 2 then
          (Option.bind (f_X9_fault w) fun q1 =>
          Option.bind (f_X10_fault q1.2) fun q2 =>
          if q1.1 = q2.1 then
            (f_L_law_18 xs Ls n (x3 + 4) q2.2)
          else
            (some (0, q2.2)))
        else if ((xs (ix x3)) &&& 31) = 3 then
          (Option.bind (f_X9_parish w) fun q1 =>
          Option.bind (f_X10_parish q1.2) fun q2 =>
          if q1.1 = q2.1 then
            (f_L_law_18 xs Ls n (x3 + 4) q2.2)
          else
            (some (0, q2.2)))
        else if ((xs (ix x3)) &&& 31) = 4 then
          (if inB (x3 + 1) Ls then (if inB (x3 + 2) Ls then (Option.bind (f_X9_bundle (xs (ix (x3 + 1))) (xs (ix (x3 + 2))) w) fun q1 =>
          if inB (x3 + 1) Ls then (if inB (x3 + 2) Ls then (Option.bind (f_X10_bundle (xs (ix (x3 + 1))) (xs (ix (x3 + 2))) q1.2) fun q2 =>
          if q1.1 = q2.1 then
            (f_L_law_18 xs Ls n (x3 + 4) q2.2)
          else
            (some (0, q2.2))) else none) else none) else none) else none)
        else if ((xs (ix x3)) &&& 31) = 5 then
          (if inB (x3 + 1) Ls then (if inB (x3 + 2) Ls then (Option.bind (f_X9_covers (xs (ix (x3 + 1))) (xs (ix (x3 + 2))) w) fun q1 =>
          if inB (x3 + 1) Ls then (if inB (x3 + 2) Ls then (Option.bind (f_X10_covers (xs (ix (x3 + 1))) (xs (ix (x3 + 2))) q1.2) fun q2 =>
          if q1.1 = q2.1 then
            (f_L_law_18 xs Ls n (x3 + 4) q2.2)
          else
            (some (0, q2.2))) else none) else none) else none) else none)
        else if ((xs (ix x3)) &&& 31) = 6 then
          (if inB (x3 + 1) Ls then (Option.bind (f_X9_teams (xs (ix (x3 + 1))) w) fun q1 =>
          if inB (x3 + 1) Ls then (Option.bind (f_X10_teams (xs (ix (x3 + 1))) q1.2) fun q2 =>
          if q1.1 = q2.1 then
            (f_L_law_18 xs Ls n (x3 + 4) q2.2)
          else
            (some (0, q2.2))) else none) else none)
        else if ((xs (ix x3)) &&& 31) = 7 then
          (if inB (x3 + 1) Ls then (if inB (x3 + 2) Ls then (Option.bind (f_X9_span (xs (ix (x3 + 1))) (xs (ix (x3 + 2))) w) fun q1 =>
          if inB (x3 + 1) Ls then (if inB (x3 + 2) Ls then (Option.bind (f_X10_span (xs (ix (x3 + 1))) (xs (ix (x3 + 2))) q1.2) fun q2 =>
          if q1.1 = q2.1 then
            (f_L_law_18 xs Ls n (x3 + 4) q2.2)
          else
            (some (0, q2.2))) else none) else none) else none) else none)
        else if ((xs (ix x3)) &&& 31) = 8 then
          (Option.bind (f_X9_ring w) fun q1 =>
          Option.bind (f_X10_ring q1.2) fun q2 =>
          if q1.1 = q2.1 then
            (f_L_law_18 xs Ls n (x3 + 4) q2.2)
          else
            (some (0, q2.2)))
        else if ((xs (ix x3)) &&& 31) = 9 then
          (if inB (x3 + 1) Ls then (Option.bind (f_X9_stack (xs (ix (x3 + 1))) w) fun q1 =>
          if inB (x3 + 1) Ls then (Option.bind (f_X10_stack (xs (ix (x3 + 1))) q1.2) fun q2 =>
          if q1.1 = q2.1 then
            (f_L_law_18 xs Ls n (x3 + 4) q2.2)
          else
            (some (0, q2.2))) else none) else none)
        else if ((xs (ix x3)) &&& 31) = 10 then
          (if inB (x3 + 1) Ls then (if inB (x3 + 2) Ls then (Option.bind (f_X9_over (xs (ix (x3 + 1))) (xs (ix (x3 + 2))) w) fun q1 =>
          if inB (x3 + 1) Ls then (if inB (x3 + 2) Ls then (Option.bind (f_X10_over (xs (ix (x3 + 1))) (xs (ix (x3 + 2))) q1.2) fun q2 =>
          if q1.1 = q2.1 then
            (f_L_law_18 xs Ls n (x3 + 4) q2.2)
          else
            (some (0, q2.2))) else none) else none) else none) else none)
        else if ((xs (ix x3)) &&& 31) = 11 then
          (if inB (x3 + 1) Ls then (if inB (x3 + 2) Ls then (Option.bind (f_X9_joined (xs (ix (x3 + 1))) (xs (ix (x3 + 2))) w) fun q1 =>
          if inB (x3 + 1) Ls then (if inB (x3 + 2) Ls then (Option.bind (f_X10_joined (xs (ix (x3 + 1))) (xs (ix (x3 + 2))) q1.2) fun q2 =>
          if q1.1 = q2.1 then
            (f_L_law_18 xs Ls n (x3 + 4) q2.2)
          else
            (some (0, q2.2))) else none) else none) else none) else none)
        else if ((xs (ix x3)) &&& 31) = 12 then
          (if inB (x3 + 1) Ls then (if inB (x3 + 2) Ls then (Option.bind (f_X9_later (xs (ix (x3 + 1))) (xs (ix (x3 + 2))) w) fun q1 =>
          if inB (x3 + 1) Ls then (if inB (x3 + 2) Ls then (Option.bind (f_X10_later (xs (ix (x3 + 1))) (xs (ix (x3 + 2))) q1.2) fun q2 =>
          if q1.1 = q2.1 then
            (f_L_law_18 xs Ls n (x3 + 4) q2.2)
          else
            (some (0, q2.2))) else none) else none) else none) else none)
        else if ((xs (ix x3)) &&& 31) = 13 then
          (if inB (x3 + 1) Ls then (if inB (x3 + 2) Ls then (if inB (x3 + 3) Ls then (Option.bind (f_X9_odds (xs (ix (x3 + 1))) (xs (ix (x3 + 2))) (xs (ix (x3 + 3))) w) fun q1 =>
          if inB (x3 + 1) Ls then (if inB (x3 + 2) Ls then (if inB (x3 + 3) Ls then (Option.bind (f_X10_odds (xs (ix (x3 + 1))) (xs (ix (x3 + 2))) (xs (ix (x3 + 3))) q1.2) fun q2 =>
          if q1.1 = q2.1 then
            (f_L_law_18 xs Ls n (x3 + 4) q2.2)
          else
            (some (0, q2.2))) else none) else none) else none) else none) else none) else none)
        else if ((xs (ix x3)) &&& 31) = 14 then
          (if inB (x3 + 1) Ls then (if inB (x3 + 2) Ls then (Option.bind (f_X9_field (xs (ix (x3 + 1))) (xs (ix (x3 + 2))) w) fun q1 =>
          if inB (x3 + 1) Ls then (if inB (x3 + 2) Ls then (Option.bind (f_X10_field (xs (ix (x3 + 1))) (xs (ix (x3 + 2))) q1.2) fun q2 =>
          if q1.1 = q2.1 then
            (f_L_law_18 xs Ls n (x3 + 4) q2.2)
          else
            (some (0, q2.2))) else none) else none) else none) else none)
        else if ((xs (ix x3)) &&& 31) = 15 then
          (Option.bind (f_X9_fields w) fun q1 =>
          Option.bind (f_X10_fields q1.2) fun q2 =>
          if q1.1 = q2.1 then
            (f_L_law_18 xs Ls n (x3 + 4) q2.2)
          else
            (some (0, q2.2)))
        else if ((xs (ix x3)) &&& 31) = 16 then
          (if inB (x3 + 1) Ls then (if inB (x3 + 2) Ls then (Option.bind (f_X9_ploughed (xs (ix (x3 + 1))) (xs (ix (x3 + 2))) w) fun q1 =>
          if inB (x3 + 1) Ls then (if inB (x3 + 2) Ls then (Option.bind (f_X10_ploughed (xs (ix (x3 + 1))) (xs (ix (x3 + 2))) q1.2) fun q2 =>
          if q1.1 = q2.1 then
            (f_L_law_18 xs Ls n (x3 + 4) q2.2)
          else
            (some (0, q2.2))) else none) else none) else none) else none)
        else if ((xs (ix x3)) &&& 31) = 17 then
          (if inB (x3 + 1) Ls then (Option.bind (f_X9_peak (xs (ix (x3 + 1))) w) fun q1 =>
          if inB (x3 + 1) Ls then (Option.bind (f_X10_peak (xs (ix (x3 + 1))) q1.2) fun q2 =>
          if q1.1 = q2.1 then
            (f_L_law_18 xs Ls n (x3 + 4) q2.2)
          else
            (some (0, q2.2))) else none) else none)
        else if ((xs (ix x3)) &&& 31) = 18 then
          (if inB (x3 + 1) Ls then (if inB (x3 + 2) Ls then (if inB (x3 + 3) Ls then (Option.bind (f_X9_terrier (xs (ix (x3 + 1))) (xs (ix (x3 + 2))) (xs (ix (x3 + 3))) w) fun q1 =>
          if inB (x3 + 1) Ls then (if inB (x3 + 2) Ls then (if inB (x3 + 3) Ls then (Option.bind (f_X10_terrier (xs (ix (x3 + 1))) (xs (ix (x3 + 2))) (xs (ix (x3 + 3))) q1.2) fun q2 =>
          if q1.1 = q2.1 then
            (f_L_law_18 xs Ls n (x3 + 4) q2.2)
          else
            (some (0, q2.2))) else none) else none) else none) else none) else none) else none)
        else if ((xs (ix x3)) &&& 31) = 19 then
          (if inB (x3 + 1) Ls then (Option.bind (f_X9_given (xs (ix (x3 + 1))) w) fun q1 =>
          if inB (x3 + 1) Ls then (Option.bind (f_X10_given (xs (ix (x3 + 1))) q1.2) fun q2 =>
          if q1.1 = q2.1 then
            (f_L_law_18 xs Ls n (x3 + 4) q2.2)
          else
            (some (0, q2.2))) else none) else none)
        else if ((xs (ix x3)) &&& 31) = 20 then
          (if inB (x3 + 1) Ls then (if inB (x3 + 2) Ls then (Option.bind (f_X9_holder (xs (ix (x3 + 1))) (xs (ix (x3 + 2))) w) fun q1 =>
          if inB (x3 + 1) Ls then (if inB (x3 + 2) Ls then (Option.bind (f_X10_holder (xs (ix (x3 + 1))) (xs (ix (x3 + 2))) q1.2) fun q2 =>
          if q1.1 = q2.1 then
            (f_L_law_18 xs Ls n (x3 + 4) q2.2)
          else
            (some (0, q2.2))) else none) else none) else none) else none)
        else if ((xs (ix x3)) &&& 31) = 21 then
          (Option.bind (f_X9_round w) fun q1 =>
          Option.bind (f_X10_round q1.2) fun q2 =>
          if q1.1 = q2.1 then
            (f_L_law_18 xs Ls n (x3 + 4) q2.2)
          else
            (some (0, q2.2)))
        else if ((xs (ix x3)) &&& 31) = 22 then
          (if inB (x3 + 1) Ls then (Option.bind (f_X9_whose (xs (ix (x3 + 1))) w) fun q1 =>
          if inB (x3 + 1) Ls then (Option.bind (f_X10_whose (xs (ix (x3 + 1))) q1.2) fun q2 =>
          if q1.1 = q2.1 then
            (f_L_law_18 xs Ls n (x3 + 4) q2.2)
          else
            (some (0, q2.2))) else none) else none)
        else if ((xs (ix x3)) &&& 31) = 23 then
          (if inB (x3 + 1) Ls then (if inB (x3 + 2) Ls then (if inB (x3 + 3) Ls then (Option.bind (f_X9_picture (xs (ix (x3 + 1))) (xs (ix (x3 + 2))) (xs (ix (x3 + 3))) w) fun q1 =>
          if inB (x3 + 1) Ls then (if inB (x3 + 2) Ls then (if inB (x3 + 3) Ls then (Option.bind (f_X10_picture (xs (ix (x3 + 1))) (xs (ix (x3 + 2))) (xs (ix (x3 + 3))) q1.2) fun q2 =>
          if q1.1 = q2.1 then
            (f_L_law_18 xs Ls n (x3 + 4) q2.2)
          else
            (some (0, q2.2))) else none) else none) else none) else none) else none) else none)
        else if ((xs (ix x3)) &&& 31) = 24 then
          (if inB (x3 + 1) Ls then (if inB (x3 + 2) Ls then (Option.bind (f_X9_shows (xs (ix (x3 + 1))) (xs (ix (x3 + 2))) w) fun q1 =>
          if inB (x3 + 1) Ls then (if inB (x3 + 2) Ls then (Option.bind (f_X10_shows (xs (ix (x3 + 1))) (xs (ix (x3 + 2))) q1.2) fun q2 =>
          if q1.1 = q2.1 then
            (f_L_law_18 xs Ls n (x3 + 4) q2.2)
          else
            (some (0, q2.2))) else none) else none) else none) else none)
        else if ((xs (ix x3)) &&& 31) = 25 then
          (if inB (x3 + 1) Ls then (Option.bind (f_X9_seen (xs (ix (x3 + 1))) w) fun q1 =>
          if inB (x3 + 1) Ls then (Option.bind (f_X10_seen (xs (ix (x3 + 1))) q1.2) fun q2 =>
          if q1.1 = q2.1 then
            (f_L_law_18 xs Ls n (x3 + 4) q2.2)
          else
            (some (0, q2.2))) else none) else none)
        else if ((xs (ix x3)) &&& 31) = 26 then
          (if inB (x3 + 1) Ls then (Option.bind (f_X9_count (xs (ix (x3 + 1))) w) fun q1 =>
          if inB (x3 + 1) Ls then (Option.bind (f_X10_count (xs (ix (x3 + 1))) q1.2) fun q2 =>
          if q1.1 = q2.1 then
            (f_L_law_18 xs Ls n (x3 + 4) q2.2)
          else
            (some (0, q2.2))) else none) else none)
        else (f_L_law_18 xs Ls n (x3 + 4) w)) else none)
set_option maxRecDepth 100000 in
set_option maxHeartbeats 4000000 in
theorem v_L_law_18 {d : Nat} (hd9 : 11 ≤ d) {X : bX} (hX : bOk cL_law 4 RL d X) {r : (Int32 × Wd)} (hE : lEnd X) {xs : Nat → Int32} {Ls : Nat} (hrc : scr xs Ls X) (h1r : r.1 = 1) : ∀ (n : Nat) (x3 : Int32) (w : Wd), f_L_law_18 xs Ls n x3 w = some r → bV X 18 [some (.ref 300), some (.ref 0), some (.ref 33), some (.int x3)] [] w := by
  obtain ⟨d, rfl⟩ : ∃ e, d = e + 1 := ⟨d - 1, by omega⟩
  intro n
  induction n with
  | zero => intro x3 w hr; exact absurd hr (by simp [f_L_law_18])
  | succ n ih =>
    intro x3 w hr
    rw [f_L_law_18] at hr
    refine V_iload_n hX dL_law_18 rfl rfl ?_
    refine V_aload_n hX dL_law_19 rfl rfl ?_
    refine V_slen hX hrc dL_law_20 ?_
    refine V_iconst hX dL_law_21 ic_4 ?_
    refine V_isub hX dL_law_22 ?_
    refine V_icmp_gt (tgt := 923) hX dL_law_23 (by decide) (fun h23 => ?_) (fun h23 => ?_)
    · rw [if_pos h23] at hr
      refine V_iconst hX dL_law_923 ic_1 ?_
      cases hr
      exact V_lret hX hE h1r dL_law_924
    · rw [if_neg h23] at hr
      refine V_aload_n hX dL_law_26 rfl rfl ?_
      refine V_iload_n hX dL_law_27 rfl rfl ?_
      obtain ⟨hn28, hr⟩ := ifn hr
      refine V_sld hX hrc (inB_in hn28) dL_law_28 ?_
      refine V_bipush hX dL_law_29 bp_31 ?_
      refine V_iand hX dL_law_31 ?_
      by_cases hs0 : ((xs (ix x3)) &&& 31) = 0
      · rw [if_pos hs0] at hr
        refine V_tableIn (tgt := 156) hX dL_law_32 (by rw [hs0]; decide) (by rw [hs0]; decide) (by rw [hs0]; rfl) (by decide) ?_
        refine V_aload_n hX dL_law_156 rfl rfl ?_
        refine V_aload_n hX dL_law_157 rfl rfl ?_
        refine V_iload_n hX dL_law_158 rfl rfl ?_
        refine V_iconst hX dL_law_159 ic_1 ?_
        refine V_iadd hX dL_law_160 ?_
        obtain ⟨hn161, hr⟩ := ifn hr
        refine V_sld hX hrc (inB_in hn161) dL_law_161 ?_
        refine V_i2l hX dL_law_162 ?_
        refine V_bipush hX dL_law_163 bp_32 ?_
        refine V_lshl hX dL_law_165 ?_
        refine V_aload_n hX dL_law_166 rfl rfl ?_
        refine V_iload_n hX dL_law_167 rfl rfl ?_
        refine V_iconst hX dL_law_168 ic_2 ?_
        refine V_iadd hX dL_law_169 ?_
        obtain ⟨hn170, hr⟩ := ifn hr
        refine V_sld hX hrc (inB_in hn170) dL_law_170 ?_
        refine V_i2l hX dL_law_171 ?_
        refine V_ldc2 (v := 4294967295) hX lc_RL_13 dL_law_172 ?_
        refine V_land hX dL_law_175 ?_
        refine V_lor hX dL_law_176 ?_
        refine V_aload_n hX dL_law_177 rfl rfl ?_
        refine V_iload_n hX dL_law_178 rfl rfl ?_
        refine V_iconst hX dL_law_179 ic_3 ?_
        refine V_iadd hX dL_law_180 ?_
        obtain ⟨hn181, hr⟩ := ifn hr
        refine V_sld hX hrc (inB_in hn181) dL_law_181 ?_
        obtain ⟨q1, hq1, hr⟩ := bnd hr
        refine C_RL_15 hX (c_X9_write (by omega) hq1) (Nat.le_of_ble_eq_true rfl) dL_law_182 ?_
        refine V_aload_n hX dL_law_185 rfl rfl ?_
        refine V_aload_n hX dL_law_186 rfl rfl ?_
        refine V_iload_n hX dL_law_187 rfl rfl ?_
        refine V_iconst hX dL_law_188 ic_1 ?_
        refine V_iadd hX dL_law_189 ?_
        obtain ⟨hn190, hr⟩ := ifn hr
        refine V_sld hX hrc (inB_in hn190) dL_law_190 ?_
        refine V_i2l hX dL_law_191 ?_
        refine V_bipush hX dL_law_192 bp_32 ?_
        refine V_lshl hX dL_law_194 ?_
        refine V_aload_n hX dL_law_195 rfl rfl ?_
        refine V_iload_n hX dL_law_196 rfl rfl ?_
        refine V_iconst hX dL_law_197 ic_2 ?_
        refine V_iadd hX dL_law_198 ?_
        obtain ⟨hn199, hr⟩ := ifn hr
        refine V_sld hX hrc (inB_in hn199) dL_law_199 ?_
        refine V_i2l hX dL_law_200 ?_
        refine V_ldc2 (v := 4294967295) hX lc_RL_13 dL_law_201 ?_
        refine V_land hX dL_law_204 ?_
        refine V_lor hX dL_law_205 ?_
        refine V_aload_n hX dL_law_206 rfl rfl ?_
        refine V_iload_n hX dL_law_207 rfl rfl ?_
        refine V_iconst hX dL_law_208 ic_3 ?_
        refine V_iadd hX dL_law_209 ?_
        obtain ⟨hn210, hr⟩ := ifn hr
        refine V_sld hX hrc (inB_in hn210) dL_law_210 ?_
        obtain ⟨q2, hq2, hr⟩ := bnd hr
        refine C_RL_19 hX (c_X10_write (by omega) hq2) (Nat.le_of_ble_eq_true rfl) dL_law_211 ?_
        refine V_icmp_eq (tgt := 917) hX dL_law_214 (by decide) (fun h214 => ?_) (fun h214 => ?_)
        · rw [if_pos h214] at hr
          refine V_iinc hX dL_law_917 rfl (ii_4 _) (Nat.le_of_ble_eq_true rfl) rfl ?_
          refine V_goto (tgt := 18) hX dL_law_920 (by decide) ?_
          refine V_mask [true, true, true, true] ?_
          exact ih _ _ hr
        · rw [if_neg h214] at hr
          refine V_iconst hX dL_law_217 ic_0 ?_
          cases hr
          exact V_lret hX hE h1r dL_law_218
      rw [if_neg hs0] at hr
      by_cases hs1 : ((xs (ix x3)) &&& 31) = 1
      · rw [if_pos hs1] at hr
        refine V_tableIn (tgt := 219) hX dL_law_32 (by rw [hs1]; decide) (by rw [hs1]; decide) (by rw [hs1]; rfl) (by decide) ?_
        refine V_aload_n hX dL_law_219 rfl rfl ?_
        obtain ⟨q1, hq1, hr⟩ := bnd hr
        refine C_RL_20 hX (c_X9_erase (by omega) hq1) (Nat.le_of_ble_eq_true rfl) dL_law_220 ?_
        refine V_aload_n hX dL_law_223 rfl rfl ?_
        obtain ⟨q2, hq2, hr⟩ := bnd hr
        refine C_RL_24 hX (c_X10_erase (by omega) hq2) (Nat.le_of_ble_eq_true rfl) dL_law_224 ?_
        refine V_icmp_eq (tgt := 917) hX dL_law_227 (by decide) (fun h227 => ?_) (fun h227 => ?_)
        · rw [if_pos h227] at hr
          refine V_iinc hX dL_law_917 rfl (ii_4 _) (Nat.le_of_ble_eq_true rfl) rfl ?_
          refine V_goto (tgt := 18) hX dL_law_920 (by decide) ?_
          refine V_mask [true, true, true, true] ?_
          exact ih _ _ hr
        · rw [if_neg h227] at hr
          refine V_iconst hX dL_law_230 ic_0 ?_
          cases hr
          exact V_lret hX hE h1r dL_law_231
      rw [if_neg hs1] at hr
      by_cases hs2 : ((xs (ix x3)) &&& 31) = 2
      · rw [if_pos hs2] at hr
        refine V_tableIn (tgt := 232) hX dL_law_32 (by rw [hs2]; decide) (by rw [hs2]; decide) (by rw [hs2]; rfl) (by decide) ?_
        refine V_aload_n hX dL_law_232 rfl rfl ?_
        obtain ⟨q1, hq1, hr⟩ := bnd hr
        refine C_RL_25 hX (c_X9_fault (by omega) hq1) (Nat.le_of_ble_eq_true rfl) dL_law_233 ?_
        refine V_aload_n hX dL_law_236 rfl rfl ?_
        obtain ⟨q2, hq2, hr⟩ := bnd hr
        refine C_RL_28 hX (c_X10_fault (by omega) hq2) (Nat.le_of_ble_eq_true rfl) dL_law_237 ?_
        refine V_icmp_eq (tgt := 917) hX dL_law_240 (by decide) (fun h240 => ?_) (fun h240 => ?_)
        · rw [if_pos h240] at hr
          refine V_iinc hX dL_law_917 rfl (ii_4 _) (Nat.le_of_ble_eq_true rfl) rfl ?_
          refine V_goto (tgt := 18) hX dL_law_920 (by decide) ?_
          refine V_mask [true, true, true, true] ?_
          exact ih _ _ hr
        · rw [if_neg h240] at hr
          refine V_iconst hX dL_law_243 ic_0 ?_
          cases hr
          exact V_lret hX hE h1r dL_law_244
      rw [if_neg hs2] at hr
      by_cases hs3 : ((xs (ix x3)) &&& 31) = 3
      · rw [if_pos hs3] at hr
        refine V_tableIn (tgt := 245) hX dL_law_32 (by rw [hs3]; decide) (by rw [hs3]; decide) (by rw [hs3]; rfl) (by decide) ?_
        refine V_aload_n hX dL_law_245 rfl rfl ?_
        obtain ⟨q1, hq1, hr⟩ := bnd hr
        refine C_RL_29 hX (c_X9_parish (by omega) hq1) (Nat.le_of_ble_eq_true rfl) dL_law_246 ?_
        refine V_aload_n hX dL_law_249 rfl rfl ?_
        obtain ⟨q2, hq2, hr⟩ := bnd hr
        refine C_RL_32 hX (c_X10_parish (by omega) hq2) (Nat.le_of_ble_eq_true rfl) dL_law_250 ?_
        refine V_icmp_eq (tgt := 917) hX dL_law_253 (by decide) (fun h253 => ?_) (fun h253 => ?_)
        · rw [if_pos h253] at hr
          refine V_iinc hX dL_law_917 rfl (ii_4 _) (Nat.le_of_ble_eq_true rfl) rfl ?_
          refine V_goto (tgt := 18) hX dL_law_920 (by decide) ?_
          refine V_mask [true, true, true, true] ?_
          exact ih _ _ hr
        · rw [if_neg h253] at hr
          refine V_iconst hX dL_law_256 ic_0 ?_
          cases hr
          exact V_lret hX hE h1r dL_law_257
      rw [if_neg hs3] at hr
      by_cases hs4 : ((xs (ix x3)) &&& 31) = 4
      · rw [if_pos hs4] at hr
        refine V_tableIn (tgt := 258) hX dL_law_32 (by rw [hs4]; decide) (by rw [hs4]; decide) (by rw [hs4]; rfl) (by decide) ?_
        refine V_aload_n hX dL_law_258 rfl rfl ?_
        refine V_aload_n hX dL_law_259 rfl rfl ?_
        refine V_iload_n hX dL_law_260 rfl rfl ?_
        refine V_iconst hX dL_law_261 ic_1 ?_
        refine V_iadd hX dL_law_262 ?_
        obtain ⟨hn263, hr⟩ := ifn hr
        refine V_sld hX hrc (inB_in hn263) dL_law_263 ?_
        refine V_aload_n hX dL_law_264 rfl rfl ?_
        refine V_iload_n hX dL_law_265 rfl rfl ?_
        refine V_iconst hX dL_law_266 ic_2 ?_
        refine V_iadd hX dL_law_267 ?_
        obtain ⟨hn268, hr⟩ := ifn hr
        refine V_sld hX hrc (inB_in hn268) dL_law_268 ?_
        obtain ⟨q1, hq1, hr⟩ := bnd hr
        refine C_RL_33 hX (c_X9_bundle (by omega) hq1) (Nat.le_of_ble_eq_true rfl) dL_law_269 ?_
        refine V_aload_n hX dL_law_272 rfl rfl ?_
        refine V_aload_n hX dL_law_273 rfl rfl ?_
        refine V_iload_n hX dL_law_274 rfl rfl ?_
        refine V_iconst hX dL_law_275 ic_1 ?_
        refine V_iadd hX dL_law_276 ?_
        obtain ⟨hn277, hr⟩ := ifn hr
        refine V_sld hX hrc (inB_in hn277) dL_law_277 ?_
        refine V_aload_n hX dL_law_278 rfl rfl ?_
        refine V_iload_n hX dL_law_279 rfl rfl ?_
        refine V_iconst hX dL_law_280 ic_2 ?_
        refine V_iadd hX dL_law_281 ?_
        obtain ⟨hn282, hr⟩ := ifn hr
        refine V_sld hX hrc (inB_in hn282) dL_law_282 ?_
        obtain ⟨q2, hq2, hr⟩ := bnd hr
        refine C_RL_37 hX (c_X10_bundle (by omega) hq2) (Nat.le_of_ble_eq_true rfl) dL_law_283 ?_
        refine V_icmp_eq (tgt := 917) hX dL_law_286 (by decide) (fun h286 => ?_) (fun h286 => ?_)
        · rw [if_pos h286] at hr
          refine V_iinc hX dL_law_917 rfl (ii_4 _) (Nat.le_of_ble_eq_true rfl) rfl ?_
          refine V_goto (tgt := 18) hX dL_law_920 (by decide) ?_
          refine V_mask [true, true, true, true] ?_
          exact ih _ _ hr
        · rw [if_neg h286] at hr
          refine V_iconst hX dL_law_289 ic_0 ?_
          cases hr
          exact V_lret hX hE h1r dL_law_290
      rw [if_neg hs4] at hr
      by_cases hs5 : ((xs (ix x3)) &&& 31) = 5
      · rw [if_pos hs5] at hr
        refine V_tableIn (tgt := 291) hX dL_law_32 (by rw [hs5]; decide) (by rw [hs5]; decide) (by rw [hs5]; rfl) (by decide) ?_
        refine V_aload_n hX dL_law_291 rfl rfl ?_
        refine V_aload_n hX dL_law_292 rfl rfl ?_
        refine V_iload_n hX dL_law_293 rfl rfl ?_
        refine V_iconst hX dL_law_294 ic_1 ?_
        refine V_iadd hX dL_law_295 ?_
        obtain ⟨hn296, hr⟩ := ifn hr
        refine V_sld hX hrc (inB_in hn296) dL_law_296 ?_
        refine V_aload_n hX dL_law_297 rfl rfl ?_
        refine V_iload_n hX dL_law_298 rfl rfl ?_
        refine V_iconst hX dL_law_299 ic_2 ?_
        refine V_iadd hX dL_law_300 ?_
        obtain ⟨hn301, hr⟩ := ifn hr
        refine V_sld hX hrc (inB_in hn301) dL_law_301 ?_
        obtain ⟨q1, hq1, hr⟩ := bnd hr
        refine C_RL_38 hX (c_X9_covers (by omega) hq1) (Nat.le_of_ble_eq_true rfl) dL_law_302 ?_
        refine V_aload_n hX dL_law_305 rfl rfl ?_
        refine V_aload_n hX dL_law_306 rfl rfl ?_
        refine V_iload_n hX dL_law_307 rfl rfl ?_
        refine V_iconst hX dL_law_308 ic_1 ?_
        refine V_iadd hX dL_law_309 ?_
        obtain ⟨hn310, hr⟩ := ifn hr
        refine V_sld hX hrc (inB_in hn310) dL_law_310 ?_
        refine V_aload_n hX dL_law_311 rfl rfl ?_
        refine V_iload_n hX dL_law_312 rfl rfl ?_
        refine V_iconst hX dL_law_313 ic_2 ?_
        refine V_iadd hX dL_law_314 ?_
        obtain ⟨hn315, hr⟩ := ifn hr
        refine V_sld hX hrc (inB_in hn315) dL_law_315 ?_
        obtain ⟨q2, hq2, hr⟩ := bnd hr
        refine C_RL_41 hX (c_X10_covers (by omega) hq2) (Nat.le_of_ble_eq_true rfl) dL_law_316 ?_
        refine V_icmp_eq (tgt := 917) hX dL_law_319 (by decide) (fun h319 => ?_) (fun h319 => ?_)
        · rw [if_pos h319] at hr
          refine V_iinc hX dL_law_917 rfl (ii_4 _) (Nat.le_of_ble_eq_true rfl) rfl ?_
          refine V_goto (tgt := 18) hX dL_law_920 (by decide) ?_
          refine V_mask [true, true, true, true] ?_
          exact ih _ _ hr
        · rw [if_neg h319] at hr
          refine V_iconst hX dL_law_322 ic_0 ?_
          cases hr
          exact V_lret hX hE h1r dL_law_323
      rw [if_neg hs5] at hr
      by_cases hs6 : ((xs (ix x3)) &&& 31) = 6
      · rw [if_pos hs6] at hr
        refine V_tableIn (tgt := 324) hX dL_law_32 (by rw [hs6]; decide) (by rw [hs6]; decide) (by rw [hs6]; rfl) (by decide) ?_
        refine V_aload_n hX dL_law_324 rfl rfl ?_
        refine V_aload_n hX dL_law_325 rfl rfl ?_
        refine V_iload_n hX dL_law_326 rfl rfl ?_
        refine V_iconst hX dL_law_327 ic_1 ?_
        refine V_iadd hX dL_law_328 ?_
        obtain ⟨hn329, hr⟩ := ifn hr
        refine V_sld hX hrc (inB_in hn329) dL_law_329 ?_
        obtain ⟨q1, hq1, hr⟩ := bnd hr
        refine C_RL_42 hX (c_X9_teams (by omega) hq1) (Nat.le_of_ble_eq_true rfl) dL_law_330 ?_
        refine V_aload_n hX dL_law_333 rfl rfl ?_
        refine V_aload_n hX dL_law_334 rfl rfl ?_
        refine V_iload_n hX dL_law_335 rfl rfl ?_
        refine V_iconst hX dL_law_336 ic_1 ?_
        refine V_iadd hX dL_law_337 ?_
        obtain ⟨hn338, hr⟩ := ifn hr
        refine V_sld hX hrc (inB_in hn338) dL_law_338 ?_
        obtain ⟨q2, hq2, hr⟩ := bnd hr
        refine C_RL_46 hX (c_X10_teams (by omega) hq2) (Nat.le_of_ble_eq_true rfl) dL_law_339 ?_
        refine V_icmp_eq (tgt := 917) hX dL_law_342 (by decide) (fun h342 => ?_) (fun h342 => ?_)
        · rw [if_pos h342] at hr
          refine V_iinc hX dL_law_917 rfl (ii_4 _) (Nat.le_of_ble_eq_true rfl) rfl ?_
          refine V_goto (tgt := 18) hX dL_law_920 (by decide) ?_
          refine V_mask [true, true, true, true] ?_
          exact ih _ _ hr
        · rw [if_neg h342] at hr
          refine V_iconst hX dL_law_345 ic_0 ?_
          cases hr
          exact V_lret hX hE h1r dL_law_346
      rw [if_neg hs6] at hr
      by_cases hs7 : ((xs (ix x3)) &&& 31) = 7
      · rw [if_pos hs7] at hr
        refine V_tableIn (tgt := 347) hX dL_law_32 (by rw [hs7]; decide) (by rw [hs7]; decide) (by rw [hs7]; rfl) (by decide) ?_
        refine V_aload_n hX dL_law_347 rfl rfl ?_
        refine V_aload_n hX dL_law_348 rfl rfl ?_
        refine V_iload_n hX dL_law_349 rfl rfl ?_
        refine V_iconst hX dL_law_350 ic_1 ?_
        refine V_iadd hX dL_law_351 ?_
        obtain ⟨hn352, hr⟩ := ifn hr
        refine V_sld hX hrc (inB_in hn352) dL_law_352 ?_
        refine V_aload_n hX dL_law_353 rfl rfl ?_
        refine V_iload_n hX dL_law_354 rfl rfl ?_
        refine V_iconst hX dL_law_355 ic_2 ?_
        refine V_iadd hX dL_law_356 ?_
        obtain ⟨hn357, hr⟩ := ifn hr
        refine V_sld hX hrc (inB_in hn357) dL_law_357 ?_
        obtain ⟨q1, hq1, hr⟩ := bnd hr
        refine C_RL_47 hX (c_X9_span (by omega) hq1) (Nat.le_of_ble_eq_true rfl) dL_law_358 ?_
        refine V_aload_n hX dL_law_361 rfl rfl ?_
        refine V_aload_n hX dL_law_362 rfl rfl ?_
        refine V_iload_n hX dL_law_363 rfl rfl ?_
        refine V_iconst hX dL_law_364 ic_1 ?_
        refine V_iadd hX dL_law_365 ?_
        obtain ⟨hn366, hr⟩ := ifn hr
        refine V_sld hX hrc (inB_in hn366) dL_law_366 ?_
        refine V_aload_n hX dL_law_367 rfl rfl ?_
        refine V_iload_n hX dL_law_368 rfl rfl ?_
        refine V_iconst hX dL_law_369 ic_2 ?_
        refine V_iadd hX dL_law_370 ?_
        obtain ⟨hn371, hr⟩ := ifn hr
        refine V_sld hX hrc (inB_in hn371) dL_law_371 ?_
        obtain ⟨q2, hq2, hr⟩ := bnd hr
        refine C_RL_50 hX (c_X10_span (by omega) hq2) (Nat.le_of_ble_eq_true rfl) dL_law_372 ?_
        refine V_icmp_eq (tgt := 917) hX dL_law_375 (by decide) (fun h375 => ?_) (fun h375 => ?_)
        · rw [if_pos h375] at hr
          refine V_iinc hX dL_law_917 rfl (ii_4 _) (Nat.le_of_ble_eq_true rfl) rfl ?_
          refine V_goto (tgt := 18) hX dL_law_920 (by decide) ?_
          refine V_mask [true, true, true, true] ?_
          exact ih _ _ hr
        · rw [if_neg h375] at hr
          refine V_iconst hX dL_law_378 ic_0 ?_
          cases hr
          exact V_lret hX hE h1r dL_law_379
      rw [if_neg hs7] at hr
      by_cases hs8 : ((xs (ix x3)) &&& 31) = 8
      · rw [if_pos hs8] at hr
        refine V_tableIn (tgt := 380) hX dL_law_32 (by rw [hs8]; decide) (by rw [hs8]; decide) (by rw [hs8]; rfl) (by decide) ?_
        refine V_aload_n hX dL_law_380 rfl rfl ?_
        obtain ⟨q1, hq1, hr⟩ := bnd hr
        refine C_RL_51 hX (c_X9_ring (by omega) hq1) (Nat.le_of_ble_eq_true rfl) dL_law_381 ?_
        refine V_aload_n hX dL_law_384 rfl rfl ?_
        obtain ⟨q2, hq2, hr⟩ := bnd hr
        refine C_RL_54 hX (c_X10_ring (by omega) hq2) (Nat.le_of_ble_eq_true rfl) dL_law_385 ?_
        refine V_icmp_eq (tgt := 917) hX dL_law_388 (by decide) (fun h388 => ?_) (fun h388 => ?_)
        · rw [if_pos h388] at hr
          refine V_iinc hX dL_law_917 rfl (ii_4 _) (Nat.le_of_ble_eq_true rfl) rfl ?_
          refine V_goto (tgt := 18) hX dL_law_920 (by decide) ?_
          refine V_mask [true, true, true, true] ?_
          exact ih _ _ hr
        · rw [if_neg h388] at hr
          refine V_iconst hX dL_law_391 ic_0 ?_
          cases hr
          exact V_lret hX hE h1r dL_law_392
      rw [if_neg hs8] at hr
      by_cases hs9 : ((xs (ix x3)) &&& 31) = 9
      · rw [if_pos hs9] at hr
        refine V_tableIn (tgt := 393) hX dL_law_32 (by rw [hs9]; decide) (by rw [hs9]; decide) (by rw [hs9]; rfl) (by decide) ?_
        refine V_aload_n hX dL_law_393 rfl rfl ?_
        refine V_aload_n hX dL_law_394 rfl rfl ?_
        refine V_iload_n hX dL_law_395 rfl rfl ?_
        refine V_iconst hX dL_law_396 ic_1 ?_
        refine V_iadd hX dL_law_397 ?_
        obtain ⟨hn398, hr⟩ := ifn hr
        refine V_sld hX hrc (inB_in hn398) dL_law_398 ?_
        obtain ⟨q1, hq1, hr⟩ := bnd hr
        refine C_RL_55 hX (c_X9_stack (by omega) hq1) (Nat.le_of_ble_eq_true rfl) dL_law_399 ?_
        refine V_aload_n hX dL_law_402 rfl rfl ?_
        refine V_aload_n hX dL_law_403 rfl rfl ?_
        refine V_iload_n hX dL_law_404 rfl rfl ?_
        refine V_iconst hX dL_law_405 ic_1 ?_
        refine V_iadd hX dL_law_406 ?_
        obtain ⟨hn407, hr⟩ := ifn hr
        refine V_sld hX hrc (inB_in hn407) dL_law_407 ?_
        obtain ⟨q2, hq2, hr⟩ := bnd hr
        refine C_RL_58 hX (c_X10_stack (by omega) hq2) (Nat.le_of_ble_eq_true rfl) dL_law_408 ?_
        refine V_icmp_eq (tgt := 917) hX dL_law_411 (by decide) (fun h411 => ?_) (fun h411 => ?_)
        · rw [if_pos h411] at hr
          refine V_iinc hX dL_law_917 rfl (ii_4 _) (Nat.le_of_ble_eq_true rfl) rfl ?_
          refine V_goto (tgt := 18) hX dL_law_920 (by decide) ?_
          refine V_mask [true, true, true, true] ?_
          exact ih _ _ hr
        · rw [if_neg h411] at hr
          refine V_iconst hX dL_law_414 ic_0 ?_
          cases hr
          exact V_lret hX hE h1r dL_law_415
      rw [if_neg hs9] at hr
      by_cases hs10 : ((xs (ix x3)) &&& 31) = 10
      · rw [if_pos hs10] at hr
        refine V_tableIn (tgt := 416) hX dL_law_32 (by rw [hs10]; decide) (by rw [hs10]; decide) (by rw [hs10]; rfl) (by decide) ?_
        refine V_aload_n hX dL_law_416 rfl rfl ?_
        refine V_aload_n hX dL_law_417 rfl rfl ?_
        refine V_iload_n hX dL_law_418 rfl rfl ?_
        refine V_iconst hX dL_law_419 ic_1 ?_
        refine V_iadd hX dL_law_420 ?_
        obtain ⟨hn421, hr⟩ := ifn hr
        refine V_sld hX hrc (inB_in hn421) dL_law_421 ?_
        refine V_aload_n hX dL_law_422 rfl rfl ?_
        refine V_iload_n hX dL_law_423 rfl rfl ?_
        refine V_iconst hX dL_law_424 ic_2 ?_
        refine V_iadd hX dL_law_425 ?_
        obtain ⟨hn426, hr⟩ := ifn hr
        refine V_sld hX hrc (inB_in hn426) dL_law_426 ?_
        obtain ⟨q1, hq1, hr⟩ := bnd hr
        refine C_RL_59 hX (c_X9_over (by omega) hq1) (Nat.le_of_ble_eq_true rfl) dL_law_427 ?_
        refine V_aload_n hX dL_law_430 rfl rfl ?_
        refine V_aload_n hX dL_law_431 rfl rfl ?_
        refine V_iload_n hX dL_law_432 rfl rfl ?_
        refine V_iconst hX dL_law_433 ic_1 ?_
        refine V_iadd hX dL_law_434 ?_
        obtain ⟨hn435, hr⟩ := ifn hr
        refine V_sld hX hrc (inB_in hn435) dL_law_435 ?_
        refine V_aload_n hX dL_law_436 rfl rfl ?_
        refine V_iload_n hX dL_law_437 rfl rfl ?_
        refine V_iconst hX dL_law_438 ic_2 ?_
        refine V_iadd hX dL_law_439 ?_
        obtain ⟨hn440, hr⟩ := ifn hr
        refine V_sld hX hrc (inB_in hn440) dL_law_440 ?_
        obtain ⟨q2, hq2, hr⟩ := bnd hr
        refine C_RL_62 hX (c_X10_over (by omega) hq2) (Nat.le_of_ble_eq_true rfl) dL_law_441 ?_
        refine V_icmp_eq (tgt := 917) hX dL_law_444 (by decide) (fun h444 => ?_) (fun h444 => ?_)
        · rw [if_pos h444] at hr
          refine V_iinc hX dL_law_917 rfl (ii_4 _) (Nat.le_of_ble_eq_true rfl) rfl ?_
          refine V_goto (tgt := 18) hX dL_law_920 (by decide) ?_
          refine V_mask [true, true, true, true] ?_
          exact ih _ _ hr
        · rw [if_neg h444] at hr
          refine V_iconst hX dL_law_447 ic_0 ?_
          cases hr
          exact V_lret hX hE h1r dL_law_448
      rw [if_neg hs10] at hr
      by_cases hs11 : ((xs (ix x3)) &&& 31) = 11
      · rw [if_pos hs11] at hr
        refine V_tableIn (tgt := 449) hX dL_law_32 (by rw [hs11]; decide) (by rw [hs11]; decide) (by rw [hs11]; rfl) (by decide) ?_
        refine V_aload_n hX dL_law_449 rfl rfl ?_
        refine V_aload_n hX dL_law_450 rfl rfl ?_
        refine V_iload_n hX dL_law_451 rfl rfl ?_
        refine V_iconst hX dL_law_452 ic_1 ?_
        refine V_iadd hX dL_law_453 ?_
        obtain ⟨hn454, hr⟩ := ifn hr
        refine V_sld hX hrc (inB_in hn454) dL_law_454 ?_
        refine V_aload_n hX dL_law_455 rfl rfl ?_
        refine V_iload_n hX dL_law_456 rfl rfl ?_
        refine V_iconst hX dL_law_457 ic_2 ?_
        refine V_iadd hX dL_law_458 ?_
        obtain ⟨hn459, hr⟩ := ifn hr
        refine V_sld hX hrc (inB_in hn459) dL_law_459 ?_
        obtain ⟨q1, hq1, hr⟩ := bnd hr
        refine C_RL_63 hX (c_X9_joined (by omega) hq1) (Nat.le_of_ble_eq_true rfl) dL_law_460 ?_
        refine V_aload_n hX dL_law_463 rfl rfl ?_
        refine V_aload_n hX dL_law_464 rfl rfl ?_
        refine V_iload_n hX dL_law_465 rfl rfl ?_
        refine V_iconst hX dL_law_466 ic_1 ?_
        refine V_iadd hX dL_law_467 ?_
        obtain ⟨hn468, hr⟩ := ifn hr
        refine V_sld hX hrc (inB_in hn468) dL_law_468 ?_
        refine V_aload_n hX dL_law_469 rfl rfl ?_
        refine V_iload_n hX dL_law_470 rfl rfl ?_
        refine V_iconst hX dL_law_471 ic_2 ?_
        refine V_iadd hX dL_law_472 ?_
        obtain ⟨hn473, hr⟩ := ifn hr
        refine V_sld hX hrc (inB_in hn473) dL_law_473 ?_
        obtain ⟨q2, hq2, hr⟩ := bnd hr
        refine C_RL_66 hX (c_X10_joined (by omega) hq2) (Nat.le_of_ble_eq_true rfl) dL_law_474 ?_
        refine V_icmp_eq (tgt := 917) hX dL_law_477 (by decide) (fun h477 => ?_) (fun h477 => ?_)
        · rw [if_pos h477] at hr
          refine V_iinc hX dL_law_917 rfl (ii_4 _) (Nat.le_of_ble_eq_true rfl) rfl ?_
          refine V_goto (tgt := 18) hX dL_law_920 (by decide) ?_
          refine V_mask [true, true, true, true] ?_
          exact ih _ _ hr
        · rw [if_neg h477] at hr
          refine V_iconst hX dL_law_480 ic_0 ?_
          cases hr
          exact V_lret hX hE h1r dL_law_481
      rw [if_neg hs11] at hr
      by_cases hs12 : ((xs (ix x3)) &&& 31) = 12
      · rw [if_pos hs12] at hr
        refine V_tableIn (tgt := 482) hX dL_law_32 (by rw [hs12]; decide) (by rw [hs12]; decide) (by rw [hs12]; rfl) (by decide) ?_
        refine V_aload_n hX dL_law_482 rfl rfl ?_
        refine V_aload_n hX dL_law_483 rfl rfl ?_
        refine V_iload_n hX dL_law_484 rfl rfl ?_
        refine V_iconst hX dL_law_485 ic_1 ?_
        refine V_iadd hX dL_law_486 ?_
        obtain ⟨hn487, hr⟩ := ifn hr
        refine V_sld hX hrc (inB_in hn487) dL_law_487 ?_
        refine V_aload_n hX dL_law_488 rfl rfl ?_
        refine V_iload_n hX dL_law_489 rfl rfl ?_
        refine V_iconst hX dL_law_490 ic_2 ?_
        refine V_iadd hX dL_law_491 ?_
        obtain ⟨hn492, hr⟩ := ifn hr
        refine V_sld hX hrc (inB_in hn492) dL_law_492 ?_
        obtain ⟨q1, hq1, hr⟩ := bnd hr
        refine C_RL_67 hX (c_X9_later (by omega) hq1) (Nat.le_of_ble_eq_true rfl) dL_law_493 ?_
        refine V_aload_n hX dL_law_496 rfl rfl ?_
        refine V_aload_n hX dL_law_497 rfl rfl ?_
        refine V_iload_n hX dL_law_498 rfl rfl ?_
        refine V_iconst hX dL_law_499 ic_1 ?_
        refine V_iadd hX dL_law_500 ?_
        obtain ⟨hn501, hr⟩ := ifn hr
        refine V_sld hX hrc (inB_in hn501) dL_law_501 ?_
        refine V_aload_n hX dL_law_502 rfl rfl ?_
        refine V_iload_n hX dL_law_503 rfl rfl ?_
        refine V_iconst hX dL_law_504 ic_2 ?_
        refine V_iadd hX dL_law_505 ?_
        obtain ⟨hn506, hr⟩ := ifn hr
        refine V_sld hX hrc (inB_in hn506) dL_law_506 ?_
        obtain ⟨q2, hq2, hr⟩ := bnd hr
        refine C_RL_70 hX (c_X10_later (by omega) hq2) (Nat.le_of_ble_eq_true rfl) dL_law_507 ?_
        refine V_icmp_eq (tgt := 917) hX dL_law_510 (by decide) (fun h510 => ?_) (fun h510 => ?_)
        · rw [if_pos h510] at hr
          refine V_iinc hX dL_law_917 rfl (ii_4 _) (Nat.le_of_ble_eq_true rfl) rfl ?_
          refine V_goto (tgt := 18) hX dL_law_920 (by decide) ?_
          refine V_mask [true, true, true, true] ?_
          exact ih _ _ hr
        · rw [if_neg h510] at hr
          refine V_iconst hX dL_law_513 ic_0 ?_
          cases hr
          exact V_lret hX hE h1r dL_law_514
      rw [if_neg hs12] at hr
      by_cases hs13 : ((xs (ix x3)) &&& 31) = 13
      · rw [if_pos hs13] at hr
        refine V_tableIn (tgt := 515) hX dL_law_32 (by rw [hs13]; decide) (by rw [hs13]; decide) (by rw [hs13]; rfl) (by decide) ?_
        refine V_aload_n hX dL_law_515 rfl rfl ?_
        refine V_aload_n hX dL_law_516 rfl rfl ?_
        refine V_iload_n hX dL_law_517 rfl rfl ?_
        refine V_iconst hX dL_law_518 ic_1 ?_
        refine V_iadd hX dL_law_519 ?_
        obtain ⟨hn520, hr⟩ := ifn hr
        refine V_sld hX hrc (inB_in hn520) dL_law_520 ?_
        refine V_aload_n hX dL_law_521 rfl rfl ?_
        refine V_iload_n hX dL_law_522 rfl rfl ?_
        refine V_iconst hX dL_law_523 ic_2 ?_
        refine V_iadd hX dL_law_524 ?_
        obtain ⟨hn525, hr⟩ := ifn hr
        refine V_sld hX hrc (inB_in hn525) dL_law_525 ?_
        refine V_aload_n hX dL_law_526 rfl rfl ?_
        refine V_iload_n hX dL_law_527 rfl rfl ?_
        refine V_iconst hX dL_law_528 ic_3 ?_
        refine V_iadd hX dL_law_529 ?_
        obtain ⟨hn530, hr⟩ := ifn hr
        refine V_sld hX hrc (inB_in hn530) dL_law_530 ?_
        obtain ⟨q1, hq1, hr⟩ := bnd hr
        refine C_RL_71 hX (c_X9_odds (by omega) hq1) (Nat.le_of_ble_eq_true rfl) dL_law_531 ?_
        refine V_aload_n hX dL_law_534 rfl rfl ?_
        refine V_aload_n hX dL_law_535 rfl rfl ?_
        refine V_iload_n hX dL_law_536 rfl rfl ?_
        refine V_iconst hX dL_law_537 ic_1 ?_
        refine V_iadd hX dL_law_538 ?_
        obtain ⟨hn539, hr⟩ := ifn hr
        refine V_sld hX hrc (inB_in hn539) dL_law_539 ?_
        refine V_aload_n hX dL_law_540 rfl rfl ?_
        refine V_iload_n hX dL_law_541 rfl rfl ?_
        refine V_iconst hX dL_law_542 ic_2 ?_
        refine V_iadd hX dL_law_543 ?_
        obtain ⟨hn544, hr⟩ := ifn hr
        refine V_sld hX hrc (inB_in hn544) dL_law_544 ?_
        refine V_aload_n hX dL_law_545 rfl rfl ?_
        refine V_iload_n hX dL_law_546 rfl rfl ?_
        refine V_iconst hX dL_law_547 ic_3 ?_
        refine V_iadd hX dL_law_548 ?_
        obtain ⟨hn549, hr⟩ := ifn hr
        refine V_sld hX hrc (inB_in hn549) dL_law_549 ?_
        obtain ⟨q2, hq2, hr⟩ := bnd hr
        refine C_RL_75 hX (c_X10_odds (by omega) hq2) (Nat.le_of_ble_eq_true rfl) dL_law_550 ?_
        refine V_icmp_eq (tgt := 917) hX dL_law_553 (by decide) (fun h553 => ?_) (fun h553 => ?_)
        · rw [if_pos h553] at hr
          refine V_iinc hX dL_law_917 rfl (ii_4 _) (Nat.le_of_ble_eq_true rfl) rfl ?_
          refine V_goto (tgt := 18) hX dL_law_920 (by decide) ?_
          refine V_mask [true, true, true, true] ?_
          exact ih _ _ hr
        · rw [if_neg h553] at hr
          refine V_iconst hX dL_law_556 ic_0 ?_
          cases hr
          exact V_lret hX hE h1r dL_law_557
      rw [if_neg hs13] at hr
      by_cases hs14 : ((xs (ix x3)) &&& 31) = 14
      · rw [if_pos hs14] at hr
        refine V_tableIn (tgt := 558) hX dL_law_32 (by rw [hs14]; decide) (by rw [hs14]; decide) (by rw [hs14]; rfl) (by decide) ?_
        refine V_aload_n hX dL_law_558 rfl rfl ?_
        refine V_aload_n hX dL_law_559 rfl rfl ?_
        refine V_iload_n hX dL_law_560 rfl rfl ?_
        refine V_iconst hX dL_law_561 ic_1 ?_
        refine V_iadd hX dL_law_562 ?_
        obtain ⟨hn563, hr⟩ := ifn hr
        refine V_sld hX hrc (inB_in hn563) dL_law_563 ?_
        refine V_aload_n hX dL_law_564 rfl rfl ?_
        refine V_iload_n hX dL_law_565 rfl rfl ?_
        refine V_iconst hX dL_law_566 ic_2 ?_
        refine V_iadd hX dL_law_567 ?_
        obtain ⟨hn568, hr⟩ := ifn hr
        refine V_sld hX hrc (inB_in hn568) dL_law_568 ?_
        obtain ⟨q1, hq1, hr⟩ := bnd hr
        refine C_RL_76 hX (c_X9_field (by omega) hq1) (Nat.le_of_ble_eq_true rfl) dL_law_569 ?_
        refine V_aload_n hX dL_law_572 rfl rfl ?_
        refine V_aload_n hX dL_law_573 rfl rfl ?_
        refine V_iload_n hX dL_law_574 rfl rfl ?_
        refine V_iconst hX dL_law_575 ic_1 ?_
        refine V_iadd hX dL_law_576 ?_
        obtain ⟨hn577, hr⟩ := ifn hr
        refine V_sld hX hrc (inB_in hn577) dL_law_577 ?_
        refine V_aload_n hX dL_law_578 rfl rfl ?_
        refine V_iload_n hX dL_law_579 rfl rfl ?_
        refine V_iconst hX dL_law_580 ic_2 ?_
        refine V_iadd hX dL_law_581 ?_
        obtain ⟨hn582, hr⟩ := ifn hr
        refine V_sld hX hrc (inB_in hn582) dL_law_582 ?_
        obtain ⟨q2, hq2, hr⟩ := bnd hr
        refine C_RL_79 hX (c_X10_field (by omega) hq2) (Nat.le_of_ble_eq_true rfl) dL_law_583 ?_
        refine V_icmp_eq (tgt := 917) hX dL_law_586 (by decide) (fun h586 => ?_) (fun h586 => ?_)
        · rw [if_pos h586] at hr
          refine V_iinc hX dL_law_917 rfl (ii_4 _) (Nat.le_of_ble_eq_true rfl) rfl ?_
          refine V_goto (tgt := 18) hX dL_law_920 (by decide) ?_
          refine V_mask [true, true, true, true] ?_
          exact ih _ _ hr
        · rw [if_neg h586] at hr
          refine V_iconst hX dL_law_589 ic_0 ?_
          cases hr
          exact V_lret hX hE h1r dL_law_590
      rw [if_neg hs14] at hr
      by_cases hs15 : ((xs (ix x3)) &&& 31) = 15
      · rw [if_pos hs15] at hr
        refine V_tableIn (tgt := 591) hX dL_law_32 (by rw [hs15]; decide) (by rw [hs15]; decide) (by rw [hs15]; rfl) (by decide) ?_
        refine V_aload_n hX dL_law_591 rfl rfl ?_
        obtain ⟨q1, hq1, hr⟩ := bnd hr
        refine C_RL_80 hX (c_X9_fields (by omega) hq1) (Nat.le_of_ble_eq_true rfl) dL_law_592 ?_
        refine V_aload_n hX dL_law_595 rfl rfl ?_
        obtain ⟨q2, hq2, hr⟩ := bnd hr
        refine C_RL_83 hX (c_X10_fields (by omega) hq2) (Nat.le_of_ble_eq_true rfl) dL_law_596 ?_
        refine V_icmp_eq (tgt := 917) hX dL_law_599 (by decide) (fun h599 => ?_) (fun h599 => ?_)
        · rw [if_pos h599] at hr
          refine V_iinc hX dL_law_917 rfl (ii_4 _) (Nat.le_of_ble_eq_true rfl) rfl ?_
          refine V_goto (tgt := 18) hX dL_law_920 (by decide) ?_
          refine V_mask [true, true, true, true] ?_
          exact ih _ _ hr
        · rw [if_neg h599] at hr
          refine V_iconst hX dL_law_602 ic_0 ?_
          cases hr
          exact V_lret hX hE h1r dL_law_603
      rw [if_neg hs15] at hr
      by_cases hs16 : ((xs (ix x3)) &&& 31) = 16
      · rw [if_pos hs16] at hr
        refine V_tableIn (tgt := 604) hX dL_law_32 (by rw [hs16]; decide) (by rw [hs16]; decide) (by rw [hs16]; rfl) (by decide) ?_
        refine V_aload_n hX dL_law_604 rfl rfl ?_
        refine V_aload_n hX dL_law_605 rfl rfl ?_
        refine V_iload_n hX dL_law_606 rfl rfl ?_
        refine V_iconst hX dL_law_607 ic_1 ?_
        refine V_iadd hX dL_law_608 ?_
        obtain ⟨hn609, hr⟩ := ifn hr
        refine V_sld hX hrc (inB_in hn609) dL_law_609 ?_
        refine V_aload_n hX dL_law_610 rfl rfl ?_
        refine V_iload_n hX dL_law_611 rfl rfl ?_
        refine V_iconst hX dL_law_612 ic_2 ?_
        refine V_iadd hX dL_law_613 ?_
        obtain ⟨hn614, hr⟩ := ifn hr
        refine V_sld hX hrc (inB_in hn614) dL_law_614 ?_
        obtain ⟨q1, hq1, hr⟩ := bnd hr
        refine C_RL_84 hX (c_X9_ploughed (by omega) hq1) (Nat.le_of_ble_eq_true rfl) dL_law_615 ?_
        refine V_aload_n hX dL_law_618 rfl rfl ?_
        refine V_aload_n hX dL_law_619 rfl rfl ?_
        refine V_iload_n hX dL_law_620 rfl rfl ?_
        refine V_iconst hX dL_law_621 ic_1 ?_
        refine V_iadd hX dL_law_622 ?_
        obtain ⟨hn623, hr⟩ := ifn hr
        refine V_sld hX hrc (inB_in hn623) dL_law_623 ?_
        refine V_aload_n hX dL_law_624 rfl rfl ?_
        refine V_iload_n hX dL_law_625 rfl rfl ?_
        refine V_iconst hX dL_law_626 ic_2 ?_
        refine V_iadd hX dL_law_627 ?_
        obtain ⟨hn628, hr⟩ := ifn hr
        refine V_sld hX hrc (inB_in hn628) dL_law_628 ?_
        obtain ⟨q2, hq2, hr⟩ := bnd hr
        refine C_RL_87 hX (c_X10_ploughed (by omega) hq2) (Nat.le_of_ble_eq_true rfl) dL_law_629 ?_
        refine V_icmp_eq (tgt := 917) hX dL_law_632 (by decide) (fun h632 => ?_) (fun h632 => ?_)
        · rw [if_pos h632] at hr
          refine V_iinc hX dL_law_917 rfl (ii_4 _) (Nat.le_of_ble_eq_true rfl) rfl ?_
          refine V_goto (tgt := 18) hX dL_law_920 (by decide) ?_
          refine V_mask [true, true, true, true] ?_
          exact ih _ _ hr
        · rw [if_neg h632] at hr
          refine V_iconst hX dL_law_635 ic_0 ?_
          cases hr
          exact V_lret hX hE h1r dL_law_636
      rw [if_neg hs16] at hr
      by_cases hs17 : ((xs (ix x3)) &&& 31) = 17
      · rw [if_pos hs17] at hr
        refine V_tableIn (tgt := 637) hX dL_law_32 (by rw [hs17]; decide) (by rw [hs17]; decide) (by rw [hs17]; rfl) (by decide) ?_
        refine V_aload_n hX dL_law_637 rfl rfl ?_
        refine V_aload_n hX dL_law_638 rfl rfl ?_
        refine V_iload_n hX dL_law_639 rfl rfl ?_
        refine V_iconst hX dL_law_640 ic_1 ?_
        refine V_iadd hX dL_law_641 ?_
        obtain ⟨hn642, hr⟩ := ifn hr
        refine V_sld hX hrc (inB_in hn642) dL_law_642 ?_
        obtain ⟨q1, hq1, hr⟩ := bnd hr
        refine C_RL_88 hX (c_X9_peak (by omega) hq1) (Nat.le_of_ble_eq_true rfl) dL_law_643 ?_
        refine V_aload_n hX dL_law_646 rfl rfl ?_
        refine V_aload_n hX dL_law_647 rfl rfl ?_
        refine V_iload_n hX dL_law_648 rfl rfl ?_
        refine V_iconst hX dL_law_649 ic_1 ?_
        refine V_iadd hX dL_law_650 ?_
        obtain ⟨hn651, hr⟩ := ifn hr
        refine V_sld hX hrc (inB_in hn651) dL_law_651 ?_
        obtain ⟨q2, hq2, hr⟩ := bnd hr
        refine C_RL_91 hX (c_X10_peak (by omega) hq2) (Nat.le_of_ble_eq_true rfl) dL_law_652 ?_
        refine V_icmp_eq (tgt := 917) hX dL_law_655 (by decide) (fun h655 => ?_) (fun h655 => ?_)
        · rw [if_pos h655] at hr
          refine V_iinc hX dL_law_917 rfl (ii_4 _) (Nat.le_of_ble_eq_true rfl) rfl ?_
          refine V_goto (tgt := 18) hX dL_law_920 (by decide) ?_
          refine V_mask [true, true, true, true] ?_
          exact ih _ _ hr
        · rw [if_neg h655] at hr
          refine V_iconst hX dL_law_658 ic_0 ?_
          cases hr
          exact V_lret hX hE h1r dL_law_659
      rw [if_neg hs17] at hr
      by_cases hs18 : ((xs (ix x3)) &&& 31) = 18
      · rw [if_pos hs18] at hr
        refine V_tableIn (tgt := 660) hX dL_law_32 (by rw [hs18]; decide) (by rw [hs18]; decide) (by rw [hs18]; rfl) (by decide) ?_
        refine V_aload_n hX dL_law_660 rfl rfl ?_
        refine V_aload_n hX dL_law_661 rfl rfl ?_
        refine V_iload_n hX dL_law_662 rfl rfl ?_
        refine V_iconst hX dL_law_663 ic_1 ?_
        refine V_iadd hX dL_law_664 ?_
        obtain ⟨hn665, hr⟩ := ifn hr
        refine V_sld hX hrc (inB_in hn665) dL_law_665 ?_
        refine V_aload_n hX dL_law_666 rfl rfl ?_
        refine V_iload_n hX dL_law_667 rfl rfl ?_
        refine V_iconst hX dL_law_668 ic_2 ?_
        refine V_iadd hX dL_law_669 ?_
        obtain ⟨hn670, hr⟩ := ifn hr
        refine V_sld hX hrc (inB_in hn670) dL_law_670 ?_
        refine V_aload_n hX dL_law_671 rfl rfl ?_
        refine V_iload_n hX dL_law_672 rfl rfl ?_
        refine V_iconst hX dL_law_673 ic_3 ?_
        refine V_iadd hX dL_law_674 ?_
        obtain ⟨hn675, hr⟩ := ifn hr
        refine V_sld hX hrc (inB_in hn675) dL_law_675 ?_
        obtain ⟨q1, hq1, hr⟩ := bnd hr
        refine C_RL_92 hX (c_X9_terrier (by omega) hq1) (Nat.le_of_ble_eq_true rfl) dL_law_676 ?_
        refine V_aload_n hX dL_law_679 rfl rfl ?_
        refine V_aload_n hX dL_law_680 rfl rfl ?_
        refine V_iload_n hX dL_law_681 rfl rfl ?_
        refine V_iconst hX dL_law_682 ic_1 ?_
        refine V_iadd hX dL_law_683 ?_
        obtain ⟨hn684, hr⟩ := ifn hr
        refine V_sld hX hrc (inB_in hn684) dL_law_684 ?_
        refine V_aload_n hX dL_law_685 rfl rfl ?_
        refine V_iload_n hX dL_law_686 rfl rfl ?_
        refine V_iconst hX dL_law_687 ic_2 ?_
        refine V_iadd hX dL_law_688 ?_
        obtain ⟨hn689, hr⟩ := ifn hr
        refine V_sld hX hrc (inB_in hn689) dL_law_689 ?_
        refine V_aload_n hX dL_law_690 rfl rfl ?_
        refine V_iload_n hX dL_law_691 rfl rfl ?_
        refine V_iconst hX dL_law_692 ic_3 ?_
        refine V_iadd hX dL_law_693 ?_
        obtain ⟨hn694, hr⟩ := ifn hr
        refine V_sld hX hrc (inB_in hn694) dL_law_694 ?_
        obtain ⟨q2, hq2, hr⟩ := bnd hr
        refine C_RL_95 hX (c_X10_terrier (by omega) hq2) (Nat.le_of_ble_eq_true rfl) dL_law_695 ?_
        refine V_icmp_eq (tgt := 917) hX dL_law_698 (by decide) (fun h698 => ?_) (fun h698 => ?_)
        · rw [if_pos h698] at hr
          refine V_iinc hX dL_law_917 rfl (ii_4 _) (Nat.le_of_ble_eq_true rfl) rfl ?_
          refine V_goto (tgt := 18) hX dL_law_920 (by decide) ?_
          refine V_mask [true, true, true, true] ?_
          exact ih _ _ hr
        · rw [if_neg h698] at hr
          refine V_iconst hX dL_law_701 ic_0 ?_
          cases hr
          exact V_lret hX hE h1r dL_law_702
      rw [if_neg hs18] at hr
      by_cases hs19 : ((xs (ix x3)) &&& 31) = 19
      · rw [if_pos hs19] at hr
        refine V_tableIn (tgt := 703) hX dL_law_32 (by rw [hs19]; decide) (by rw [hs19]; decide) (by rw [hs19]; rfl) (by decide) ?_
        refine V_aload_n hX dL_law_703 rfl rfl ?_
        refine V_aload_n hX dL_law_704 rfl rfl ?_
        refine V_iload_n hX dL_law_705 rfl rfl ?_
        refine V_iconst hX dL_law_706 ic_1 ?_
        refine V_iadd hX dL_law_707 ?_
        obtain ⟨hn708, hr⟩ := ifn hr
        refine V_sld hX hrc (inB_in hn708) dL_law_708 ?_
        obtain ⟨q1, hq1, hr⟩ := bnd hr
        refine C_RL_96 hX (c_X9_given (by omega) hq1) (Nat.le_of_ble_eq_true rfl) dL_law_709 ?_
        refine V_aload_n hX dL_law_712 rfl rfl ?_
        refine V_aload_n hX dL_law_713 rfl rfl ?_
        refine V_iload_n hX dL_law_714 rfl rfl ?_
        refine V_iconst hX dL_law_715 ic_1 ?_
        refine V_iadd hX dL_law_716 ?_
        obtain ⟨hn717, hr⟩ := ifn hr
        refine V_sld hX hrc (inB_in hn717) dL_law_717 ?_
        obtain ⟨q2, hq2, hr⟩ := bnd hr
        refine C_RL_99 hX (c_X10_given (by omega) hq2) (Nat.le_of_ble_eq_true rfl) dL_law_718 ?_
        refine V_icmp_eq (tgt := 917) hX dL_law_721 (by decide) (fun h721 => ?_) (fun h721 => ?_)
        · rw [if_pos h721] at hr
          refine V_iinc hX dL_law_917 rfl (ii_4 _) (Nat.le_of_ble_eq_true rfl) rfl ?_
          refine V_goto (tgt := 18) hX dL_law_920 (by decide) ?_
          refine V_mask [true, true, true, true] ?_
          exact ih _ _ hr
        · rw [if_neg h721] at hr
          refine V_iconst hX dL_law_724 ic_0 ?_
          cases hr
          exact V_lret hX hE h1r dL_law_725
      rw [if_neg hs19] at hr
      by_cases hs20 : ((xs (ix x3)) &&& 31) = 20
      · rw [if_pos hs20] at hr
        refine V_tableIn (tgt := 726) hX dL_law_32 (by rw [hs20]; decide) (by rw [hs20]; decide) (by rw [hs20]; rfl) (by decide) ?_
        refine V_aload_n hX dL_law_726 rfl rfl ?_
        refine V_aload_n hX dL_law_727 rfl rfl ?_
        refine V_iload_n hX dL_law_728 rfl rfl ?_
        refine V_iconst hX dL_law_729 ic_1 ?_
        refine V_iadd hX dL_law_730 ?_
        obtain ⟨hn731, hr⟩ := ifn hr
        refine V_sld hX hrc (inB_in hn731) dL_law_731 ?_
        refine V_aload_n hX dL_law_732 rfl rfl ?_
        refine V_iload_n hX dL_law_733 rfl rfl ?_
        refine V_iconst hX dL_law_734 ic_2 ?_
        refine V_iadd hX dL_law_735 ?_
        obtain ⟨hn736, hr⟩ := ifn hr
        refine V_sld hX hrc (inB_in hn736) dL_law_736 ?_
        obtain ⟨q1, hq1, hr⟩ := bnd hr
        refine C_RL_100 hX (c_X9_holder (by omega) hq1) (Nat.le_of_ble_eq_true rfl) dL_law_737 ?_
        refine V_aload_n hX dL_law_740 rfl rfl ?_
        refine V_aload_n hX dL_law_741 rfl rfl ?_
        refine V_iload_n hX dL_law_742 rfl rfl ?_
        refine V_iconst hX dL_law_743 ic_1 ?_
        refine V_iadd hX dL_law_744 ?_
        obtain ⟨hn745, hr⟩ := ifn hr
        refine V_sld hX hrc (inB_in hn745) dL_law_745 ?_
        refine V_aload_n hX dL_law_746 rfl rfl ?_
        refine V_iload_n hX dL_law_747 rfl rfl ?_
        refine V_iconst hX dL_law_748 ic_2 ?_
        refine V_iadd hX dL_law_749 ?_
        obtain ⟨hn750, hr⟩ := ifn hr
        refine V_sld hX hrc (inB_in hn750) dL_law_750 ?_
        obtain ⟨q2, hq2, hr⟩ := bnd hr
        refine C_RL_103 hX (c_X10_holder (by omega) hq2) (Nat.le_of_ble_eq_true rfl) dL_law_751 ?_
        refine V_icmp_eq (tgt := 917) hX dL_law_754 (by decide) (fun h754 => ?_) (fun h754 => ?_)
        · rw [if_pos h754] at hr
          refine V_iinc hX dL_law_917 rfl (ii_4 _) (Nat.le_of_ble_eq_true rfl) rfl ?_
          refine V_goto (tgt := 18) hX dL_law_920 (by decide) ?_
          refine V_mask [true, true, true, true] ?_
          exact ih _ _ hr
        · rw [if_neg h754] at hr
          refine V_iconst hX dL_law_757 ic_0 ?_
          cases hr
          exact V_lret hX hE h1r dL_law_758
      rw [if_neg hs20] at hr
      by_cases hs21 : ((xs (ix x3)) &&& 31) = 21
      · rw [if_pos hs21] at hr
        refine V_tableIn (tgt := 759) hX dL_law_32 (by rw [hs21]; decide) (by rw [hs21]; decide) (by rw [hs21]; rfl) (by decide) ?_
        refine V_aload_n hX dL_law_759 rfl rfl ?_
        obtain ⟨q1, hq1, hr⟩ := bnd hr
        refine C_RL_104 hX (c_X9_round (by omega) hq1) (Nat.le_of_ble_eq_true rfl) dL_law_760 ?_
        refine V_aload_n hX dL_law_763 rfl rfl ?_
        obtain ⟨q2, hq2, hr⟩ := bnd hr
        refine C_RL_107 hX (c_X10_round (by omega) hq2) (Nat.le_of_ble_eq_true rfl) dL_law_764 ?_
        refine V_icmp_eq (tgt := 917) hX dL_law_767 (by decide) (fun h767 => ?_) (fun h767 => ?_)
        · rw [if_pos h767] at hr
          refine V_iinc hX dL_law_917 rfl (ii_4 _) (Nat.le_of_ble_eq_true rfl) rfl ?_
          refine V_goto (tgt := 18) hX dL_law_920 (by decide) ?_
          refine V_mask [true, true, true, true] ?_
          exact ih _ _ hr
        · rw [if_neg h767] at hr
          refine V_iconst hX dL_law_770 ic_0 ?_
          cases hr
          exact V_lret hX hE h1r dL_law_771
      rw [if_neg hs21] at hr
      by_cases hs22 : ((xs (ix x3)) &&& 31) = 22
      · rw [if_pos hs22] at hr
        refine V_tableIn (tgt := 772) hX dL_law_32 (by rw [hs22]; decide) (by rw [hs22]; decide) (by rw [hs22]; rfl) (by decide) ?_
        refine V_aload_n hX dL_law_772 rfl rfl ?_
        refine V_aload_n hX dL_law_773 rfl rfl ?_
        refine V_iload_n hX dL_law_774 rfl rfl ?_
        refine V_iconst hX dL_law_775 ic_1 ?_
        refine V_iadd hX dL_law_776 ?_
        obtain ⟨hn777, hr⟩ := ifn hr
        refine V_sld hX hrc (inB_in hn777) dL_law_777 ?_
        obtain ⟨q1, hq1, hr⟩ := bnd hr
        refine C_RL_108 hX (c_X9_whose (by omega) hq1) (Nat.le_of_ble_eq_true rfl) dL_law_778 ?_
        refine V_aload_n hX dL_law_781 rfl rfl ?_
        refine V_aload_n hX dL_law_782 rfl rfl ?_
        refine V_iload_n hX dL_law_783 rfl rfl ?_
        refine V_iconst hX dL_law_784 ic_1 ?_
        refine V_iadd hX dL_law_785 ?_
        obtain ⟨hn786, hr⟩ := ifn hr
        refine V_sld hX hrc (inB_in hn786) dL_law_786 ?_
        obtain ⟨q2, hq2, hr⟩ := bnd hr
        refine C_RL_111 hX (c_X10_whose (by omega) hq2) (Nat.le_of_ble_eq_true rfl) dL_law_787 ?_
        refine V_icmp_eq (tgt := 917) hX dL_law_790 (by decide) (fun h790 => ?_) (fun h790 => ?_)
        · rw [if_pos h790] at hr
          refine V_iinc hX dL_law_917 rfl (ii_4 _) (Nat.le_of_ble_eq_true rfl) rfl ?_
          refine V_goto (tgt := 18) hX dL_law_920 (by decide) ?_
          refine V_mask [true, true, true, true] ?_
          exact ih _ _ hr
        · rw [if_neg h790] at hr
          refine V_iconst hX dL_law_793 ic_0 ?_
          cases hr
          exact V_lret hX hE h1r dL_law_794
      rw [if_neg hs22] at hr
      by_cases hs23 : ((xs (ix x3)) &&& 31) = 23
      · rw [if_pos hs23] at hr
        refine V_tableIn (tgt := 795) hX dL_law_32 (by rw [hs23]; decide) (by rw [hs23]; decide) (by rw [hs23]; rfl) (by decide) ?_
        refine V_aload_n hX dL_law_795 rfl rfl ?_
        refine V_aload_n hX dL_law_796 rfl rfl ?_
        refine V_iload_n hX dL_law_797 rfl rfl ?_
        refine V_iconst hX dL_law_798 ic_1 ?_
        refine V_iadd hX dL_law_799 ?_
        obtain ⟨hn800, hr⟩ := ifn hr
        refine V_sld hX hrc (inB_in hn800) dL_law_800 ?_
        refine V_aload_n hX dL_law_801 rfl rfl ?_
        refine V_iload_n hX dL_law_802 rfl rfl ?_
        refine V_iconst hX dL_law_803 ic_2 ?_
        refine V_iadd hX dL_law_804 ?_
        obtain ⟨hn805, hr⟩ := ifn hr
        refine V_sld hX hrc (inB_in hn805) dL_law_805 ?_
        refine V_aload_n hX dL_law_806 rfl rfl ?_
        refine V_iload_n hX dL_law_807 rfl rfl ?_
        refine V_iconst hX dL_law_808 ic_3 ?_
        refine V_iadd hX dL_law_809 ?_
        obtain ⟨hn810, hr⟩ := ifn hr
        refine V_sld hX hrc (inB_in hn810) dL_law_810 ?_
        obtain ⟨q1, hq1, hr⟩ := bnd hr
        refine C_RL_112 hX (c_X9_picture (by omega) hq1) (Nat.le_of_ble_eq_true rfl) dL_law_811 ?_
        refine V_aload_n hX dL_law_814 rfl rfl ?_
        refine V_aload_n hX dL_law_815 rfl rfl ?_
        refine V_iload_n hX dL_law_816 rfl rfl ?_
        refine V_iconst hX dL_law_817 ic_1 ?_
        refine V_iadd hX dL_law_818 ?_
        obtain ⟨hn819, hr⟩ := ifn hr
        refine V_sld hX hrc (inB_in hn819) dL_law_819 ?_
        refine V_aload_n hX dL_law_820 rfl rfl ?_
        refine V_iload_n hX dL_law_821 rfl rfl ?_
        refine V_iconst hX dL_law_822 ic_2 ?_
        refine V_iadd hX dL_law_823 ?_
        obtain ⟨hn824, hr⟩ := ifn hr
        refine V_sld hX hrc (inB_in hn824) dL_law_824 ?_
        refine V_aload_n hX dL_law_825 rfl rfl ?_
        refine V_iload_n hX dL_law_826 rfl rfl ?_
        refine V_iconst hX dL_law_827 ic_3 ?_
        refine V_iadd hX dL_law_828 ?_
        obtain ⟨hn829, hr⟩ := ifn hr
        refine V_sld hX hrc (inB_in hn829) dL_law_829 ?_
        obtain ⟨q2, hq2, hr⟩ := bnd hr
        refine C_RL_115 hX (c_X10_picture (by omega) hq2) (Nat.le_of_ble_eq_true rfl) dL_law_830 ?_
        refine V_icmp_eq (tgt := 917) hX dL_law_833 (by decide) (fun h833 => ?_) (fun h833 => ?_)
        · rw [if_pos h833] at hr
          refine V_iinc hX dL_law_917 rfl (ii_4 _) (Nat.le_of_ble_eq_true rfl) rfl ?_
          refine V_goto (tgt := 18) hX dL_law_920 (by decide) ?_
          refine V_mask [true, true, true, true] ?_
          exact ih _ _ hr
        · rw [if_neg h833] at hr
          refine V_iconst hX dL_law_836 ic_0 ?_
          cases hr
          exact V_lret hX hE h1r dL_law_837
      rw [if_neg hs23] at hr
      by_cases hs24 : ((xs (ix x3)) &&& 31) = 24
      · rw [if_pos hs24] at hr
        refine V_tableIn (tgt := 838) hX dL_law_32 (by rw [hs24]; decide) (by rw [hs24]; decide) (by rw [hs24]; rfl) (by decide) ?_
        refine V_aload_n hX dL_law_838 rfl rfl ?_
        refine V_aload_n hX dL_law_839 rfl rfl ?_
        refine V_iload_n hX dL_law_840 rfl rfl ?_
        refine V_iconst hX dL_law_841 ic_1 ?_
        refine V_iadd hX dL_law_842 ?_
        obtain ⟨hn843, hr⟩ := ifn hr
        refine V_sld hX hrc (inB_in hn843) dL_law_843 ?_
        refine V_aload_n hX dL_law_844 rfl rfl ?_
        refine V_iload_n hX dL_law_845 rfl rfl ?_
        refine V_iconst hX dL_law_846 ic_2 ?_
        refine V_iadd hX dL_law_847 ?_
        obtain ⟨hn848, hr⟩ := ifn hr
        refine V_sld hX hrc (inB_in hn848) dL_law_848 ?_
        obtain ⟨q1, hq1, hr⟩ := bnd hr
        refine C_RL_116 hX (c_X9_shows (by omega) hq1) (Nat.le_of_ble_eq_true rfl) dL_law_849 ?_
        refine V_aload_n hX dL_law_852 rfl rfl ?_
        refine V_aload_n hX dL_law_853 rfl rfl ?_
        refine V_iload_n hX dL_law_854 rfl rfl ?_
        refine V_iconst hX dL_law_855 ic_1 ?_
        refine V_iadd hX dL_law_856 ?_
        obtain ⟨hn857, hr⟩ := ifn hr
        refine V_sld hX hrc (inB_in hn857) dL_law_857 ?_
        refine V_aload_n hX dL_law_858 rfl rfl ?_
        refine V_iload_n hX dL_law_859 rfl rfl ?_
        refine V_iconst hX dL_law_860 ic_2 ?_
        refine V_iadd hX dL_law_861 ?_
        obtain ⟨hn862, hr⟩ := ifn hr
        refine V_sld hX hrc (inB_in hn862) dL_law_862 ?_
        obtain ⟨q2, hq2, hr⟩ := bnd hr
        refine C_RL_119 hX (c_X10_shows (by omega) hq2) (Nat.le_of_ble_eq_true rfl) dL_law_863 ?_
        refine V_icmp_eq (tgt := 917) hX dL_law_866 (by decide) (fun h866 => ?_) (fun h866 => ?_)
        · rw [if_pos h866] at hr
          refine V_iinc hX dL_law_917 rfl (ii_4 _) (Nat.le_of_ble_eq_true rfl) rfl ?_
          refine V_goto (tgt := 18) hX dL_law_920 (by decide) ?_
          refine V_mask [true, true, true, true] ?_
          exact ih _ _ hr
        · rw [if_neg h866] at hr
          refine V_iconst hX dL_law_869 ic_0 ?_
          cases hr
          exact V_lret hX hE h1r dL_law_870
      rw [if_neg hs24] at hr
      by_cases hs25 : ((xs (ix x3)) &&& 31) = 25
      · rw [if_pos hs25] at hr
        refine V_tableIn (tgt := 871) hX dL_law_32 (by rw [hs25]; decide) (by rw [hs25]; decide) (by rw [hs25]; rfl) (by decide) ?_
        refine V_aload_n hX dL_law_871 rfl rfl ?_
        refine V_aload_n hX dL_law_872 rfl rfl ?_
        refine V_iload_n hX dL_law_873 rfl rfl ?_
        refine V_iconst hX dL_law_874 ic_1 ?_
        refine V_iadd hX dL_law_875 ?_
        obtain ⟨hn876, hr⟩ := ifn hr
        refine V_sld hX hrc (inB_in hn876) dL_law_876 ?_
        obtain ⟨q1, hq1, hr⟩ := bnd hr
        refine C_RL_120 hX (c_X9_seen (by omega) hq1) (Nat.le_of_ble_eq_true rfl) dL_law_877 ?_
        refine V_aload_n hX dL_law_880 rfl rfl ?_
        refine V_aload_n hX dL_law_881 rfl rfl ?_
        refine V_iload_n hX dL_law_882 rfl rfl ?_
        refine V_iconst hX dL_law_883 ic_1 ?_
        refine V_iadd hX dL_law_884 ?_
        obtain ⟨hn885, hr⟩ := ifn hr
        refine V_sld hX hrc (inB_in hn885) dL_law_885 ?_
        obtain ⟨q2, hq2, hr⟩ := bnd hr
        refine C_RL_123 hX (c_X10_seen (by omega) hq2) (Nat.le_of_ble_eq_true rfl) dL_law_886 ?_
        refine V_icmp_eq (tgt := 917) hX dL_law_889 (by decide) (fun h889 => ?_) (fun h889 => ?_)
        · rw [if_pos h889] at hr
          refine V_iinc hX dL_law_917 rfl (ii_4 _) (Nat.le_of_ble_eq_true rfl) rfl ?_
          refine V_goto (tgt := 18) hX dL_law_920 (by decide) ?_
          refine V_mask [true, true, true, true] ?_
          exact ih _ _ hr
        · rw [if_neg h889] at hr
          refine V_iconst hX dL_law_892 ic_0 ?_
          cases hr
          exact V_lret hX hE h1r dL_law_893
      rw [if_neg hs25] at hr
      by_cases hs26 : ((xs (ix x3)) &&& 31) = 26
      · rw [if_pos hs26] at hr
        refine V_tableIn (tgt := 894) hX dL_law_32 (by rw [hs26]; decide) (by rw [hs26]; decide) (by rw [hs26]; rfl) (by decide) ?_
        refine V_aload_n hX dL_law_894 rfl rfl ?_
        refine V_aload_n hX dL_law_895 rfl rfl ?_
        refine V_iload_n hX dL_law_896 rfl rfl ?_
        refine V_iconst hX dL_law_897 ic_1 ?_
        refine V_iadd hX dL_law_898 ?_
        obtain ⟨hn899, hr⟩ := ifn hr
        refine V_sld hX hrc (inB_in hn899) dL_law_899 ?_
        obtain ⟨q1, hq1, hr⟩ := bnd hr
        refine C_RL_124 hX (c_X9_count (by omega) hq1) (Nat.le_of_ble_eq_true rfl) dL_law_900 ?_
        refine V_aload_n hX dL_law_903 rfl rfl ?_
        refine V_aload_n hX dL_law_904 rfl rfl ?_
        refine V_iload_n hX dL_law_905 rfl rfl ?_
        refine V_iconst hX dL_law_906 ic_1 ?_
        refine V_iadd hX dL_law_907 ?_
        obtain ⟨hn908, hr⟩ := ifn hr
        refine V_sld hX hrc (inB_in hn908) dL_law_908 ?_
        obtain ⟨q2, hq2, hr⟩ := bnd hr
        refine C_RL_127 hX (c_X10_count (by omega) hq2) (Nat.le_of_ble_eq_true rfl) dL_law_909 ?_
        refine V_icmp_eq (tgt := 917) hX dL_law_912 (by decide) (fun h912 => ?_) (fun h912 => ?_)
        · rw [if_pos h912] at hr
          refine V_iinc hX dL_law_917 rfl (ii_4 _) (Nat.le_of_ble_eq_true rfl) rfl ?_
          refine V_goto (tgt := 18) hX dL_law_920 (by decide) ?_
          refine V_mask [true, true, true, true] ?_
          exact ih _ _ hr
        · rw [if_neg h912] at hr
          refine V_iconst hX dL_law_915 ic_0 ?_
          cases hr
          exact V_lret hX hE h1r dL_law_916
      rw [if_neg hs26] at hr
      refine V_tableOut (tgt := 917) hX dL_law_32 (tb_out 26 (fun j hj => by rcases (show j = 0 ∨ j = 1 ∨ j = 2 ∨ j = 3 ∨ j = 4 ∨ j = 5 ∨ j = 6 ∨ j = 7 ∨ j = 8 ∨ j = 9 ∨ j = 10 ∨ j = 11 ∨ j = 12 ∨ j = 13 ∨ j = 14 ∨ j = 15 ∨ j = 16 ∨ j = 17 ∨ j = 18 ∨ j = 19 ∨ j = 20 ∨ j = 21 ∨ j = 22 ∨ j = 23 ∨ j = 24 ∨ j = 25 ∨ j = 26 by omega) with rfl | rfl | rfl | rfl | rfl | rfl | rfl | rfl | rfl | rfl | rfl | rfl | rfl | rfl | rfl | rfl | rfl | rfl | rfl | rfl | rfl | rfl | rfl | rfl | rfl | rfl | rfl <;> assumption)) (by decide) ?_
      refine V_iinc hX dL_law_917 rfl (ii_4 _) (Nat.le_of_ble_eq_true rfl) rfl ?_
      refine V_goto (tgt := 18) hX dL_law_920 (by decide) ?_
      refine V_mask [true, true, true, true] ?_
      exact ih _ _ hr
