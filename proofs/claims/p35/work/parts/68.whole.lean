/-! Whole methods of the third machine, to a depth of calls: what they do is a function. -/
section xWhole
def xHd : List (List Nat) := [[], [], [], [], [], [], [2], [], [], [], [], [68], [2], [2], [2, 46], [4], [4], [], [], [], [], [], [], [11, 21, 31, 41, 54, 64, 74], [], [], [], [10], [], [41, 223, 229], [], [], [], [], [], [], [], [], [26, 30, 84, 125], [], [59], [], [22, 223], [], [], [], [2], [], [], [], [], [], [8, 28], [], [], [30, 56], [], [17], [], [], [], [23, 82, 96, 188, 199, 215, 242, 255, 274, 288, 302, 316, 339, 362, 383, 404, 425, 449], [12], [], [12], [14], [], [2], [4], [5], [4], [12], [], [6], [6, 33], [], [5], [34, 50], [], [9], [], [], [15], [], [14], [], [7], [7], [], [2], [3], [], [], [], [], [], [], [], [35, 66, 74, 102], [2], [], [], [24], [13, 25], [25], [], [], [37], [], [3], [], [], [], [], [], [], [], [], [], [], [], [], [], [], [], [], [], [], [], [], [], [], [], [], [], [], [], [], [], [], [], [], [], [], [], [], [], [], [], [], [], [3], [], [], [], [], [], [0, 78, 144], [], [], [66, 121, 176, 231], [], [], [], [], [5], [], [], [], [], [0], [7], [], [], [], [], [2, 44, 53, 78, 83, 101, 179, 186, 211], [], [4], [47, 111, 130, 169, 171, 174, 193, 205], [], [120, 124, 128, 132, 144, 156, 170, 184, 198, 215], [], [9], [], [], [26], [], [], [], [], [], [31, 57, 82, 108, 133, 168, 203, 228, 233, 259, 270], [98], [95, 133, 173, 211, 236, 273, 299, 369], [], [], [], [], [], [2, 28], [2, 28], [2, 28], [], [2], [], [2], [4], [], [2], [], [], [], [], [], [], [], [], [11, 51], [2], [], [37], [], [], [], [], [], [], [], [2], [5], [22, 41], [], [53, 92], [2], [4], [5], [13, 43], [12], [20, 42, 50], [12], [43, 63], [11, 36], [], [], [], [], [], [30, 42, 118, 130], [4, 15], [4], [9], [30, 92], [7], [27], [19, 47, 58, 103], [], [], [10, 29, 40, 50, 60, 70, 83, 93, 103], [], [], [], [4], [18, 37], [14], [25], [4], [41, 69, 112, 169], [], [18, 49], [20, 51], [], [5]]
noncomputable def xstop (j : Nat) : Nat → Bool := fun pc => match zget xHd j with
  | some l => l.any (Nat.beq pc)
  | none => false
/-- at a return: what it gives -/
noncomputable def xfr (rk : Nat) (C : xC) (o : Option (Nat × Int)) : Option (Int × xC) := match o with
  | some (rk1, z) => cond (Nat.beq rk1 rk) (some (z, C)) none
  | none => none
noncomputable def xend (cd : zCode) (rk : Nat) (cf : xCf) : Option (Int × xC) := match zfetch cd cf.1 with
  | some (i, a, _, _) => xfr rk cf.2.2.2 (xrt i a cf.2.2.1)
  | none => none
/-- so many stretches, then a return -/
noncomputable def xgo (cd : zCode) (call : xCl) (stop : Nat → Bool) (rk : Nat) : Nat → xCf → Option (Int × xC)
  | 0, cf => xend cd rk cf
  | n + 1, cf => match xseg xPr cd call stop 300 cf with
    | some cf1 => xgo cd call stop rk n cf1
    | none => none
theorem xend_some {cd : zCode} {rk : Nat} {cf : xCf} {r : Int × xC} (h : xend cd rk cf = some r) : ∃ i a b w, zfetch cd cf.1 = some (i, a, b, w) ∧ xrt i a cf.2.2.1 = some (rk, r.1) ∧ cf.2.2.2 = r.2 := by
  unfold xend at h
  split at h
  · rename_i i a b w hf
    unfold xfr at h
    split at h
    · rename_i rk1 z hr
      cases hb : Nat.beq rk1 rk with
      | true =>
        rw [hb] at h
        cases h
        exact ⟨i, a, b, w, hf, by rw [hr, Nat.eq_of_beq_eq_true hb], rfl⟩
      | false => rw [hb] at h; cases h
    · cases h
  · cases h
theorem xrt_ret {i : Instr} {a : Nat} {S : List xV} {q : Nat × Int} (h : xrt i a S = some q) : yisRet i = true := by
  unfold xrt at h
  split at h
  · rfl
  · rfl
  · rfl
  · cases h
theorem xend_seg {cd : zCode} {call : xCl} {stop : Nat → Bool} {rk n : Nat} {cf : xCf} {r : Int × xC} (h : xend cd rk cf = some r) : xseg xPr cd call stop n cf = none := by
  obtain ⟨i, a, b, w, h1, h2, -⟩ := xend_some h
  unfold xseg
  rw [h1]
  dsimp only
  rw [xrt_ret h2]
theorem xgo_unique {cd : zCode} {call : xCl} {stop : Nat → Bool} {rk : Nat} : ∀ {n m : Nat} {cf : xCf} {r q : Int × xC}, xgo cd call stop rk n cf = some r → xgo cd call stop rk m cf = some q → r = q := by
  intro n
  induction n with
  | zero =>
    intro m cf r q h1 h2
    cases m with
    | zero => exact Option.some.inj (h1.symm.trans h2)
    | succ m =>
      have e := xend_seg (call := call) (stop := stop) (n := 300) (show xend cd rk cf = some r from h1)
      simp [xgo, e] at h2
  | succ n ih =>
    intro m cf r q h1 h2
    cases m with
    | zero =>
      have e := xend_seg (call := call) (stop := stop) (n := 300) (show xend cd rk cf = some q from h2)
      simp [xgo, e] at h1
    | succ m =>
      cases hs : xseg xPr cd call stop 300 cf with
      | none => simp [xgo, hs] at h1
      | some cf1 =>
        simp only [xgo, hs] at h1 h2
        exact ih h1 h2
/-- from a place of a method on to its end -/
noncomputable def xgoL (cd : zCode) (call : xCl) (stop : Nat → Bool) (rk : Nat) (cf : xCf) : Option (Int × xC) :=
  @dite _ (∃ r : Int × xC, ∃ n, xgo cd call stop rk n cf = some r) (Classical.propDecidable _) (fun h => some h.choose) (fun _ => none)
theorem xgoL_some {cd : zCode} {call : xCl} {stop : Nat → Bool} {rk : Nat} {cf : xCf} {r : Int × xC} : xgoL cd call stop rk cf = some r ↔ ∃ n, xgo cd call stop rk n cf = some r := by
  unfold xgoL
  constructor
  · intro h
    split at h
    · rename_i hh
      cases h
      exact hh.choose_spec
    · cases h
  · rintro ⟨n, h⟩
    have hh : ∃ r : Int × xC, ∃ n, xgo cd call stop rk n cf = some r := ⟨r, n, h⟩
    rw [dif_pos hh]
    obtain ⟨m, h2⟩ := hh.choose_spec
    rw [xgo_unique h2 h]
theorem xgoL_end {cd : zCode} {call : xCl} {stop : Nat → Bool} {rk : Nat} {cf : xCf} {r : Int × xC} (h : xend cd rk cf = some r) : xgoL cd call stop rk cf = some r := xgoL_some.mpr ⟨0, h⟩
theorem xgoL_seg {cd : zCode} {call : xCl} {stop : Nat → Bool} {rk : Nat} {cf cf1 : xCf} (h : xseg xPr cd call stop 300 cf = some cf1) : xgoL cd call stop rk cf = xgoL cd call stop rk cf1 := by
  have key : ∀ r, xgoL cd call stop rk cf = some r ↔ xgoL cd call stop rk cf1 = some r := by
    intro r
    rw [xgoL_some, xgoL_some]
    constructor
    · rintro ⟨n, hn⟩
      cases n with
      | zero => rw [xend_seg (call := call) (stop := stop) (n := 300) (show xend cd rk cf = some r from hn)] at h; cases h
      | succ n =>
        simp only [xgo, h] at hn
        exact ⟨n, hn⟩
    · rintro ⟨n, hn⟩
      exact ⟨n + 1, by simp only [xgo, h]; exact hn⟩
  cases h1 : xgoL cd call stop rk cf1 with
  | some r => exact (key r).mpr h1
  | none =>
    cases h2 : xgoL cd call stop rk cf with
    | none => rfl
    | some r => rw [(key r).mp h2] at h1; cases h1
theorem xgo_rch {cd : zCode} {call : xCl} {stop : Nat → Bool} {rk : Nat} : ∀ {n : Nat} {cf : xCf} {r : Int × xC}, xgo cd call stop rk n cf = some r → ∃ (cf1 : xCf) (i : Instr) (a b w : Nat), xRch (xseg xPr cd call stop 300) n cf cf1 ∧ zfetch cd cf1.1 = some (i, a, b, w) ∧ xrt i a cf1.2.2.1 = some (rk, r.1) ∧ cf1.2.2.2 = r.2 := by
  intro n
  induction n with
  | zero =>
    intro cf r h
    obtain ⟨i, a, b, w, h1, h2, h3⟩ := xend_some (show xend cd rk cf = some r from h)
    exact ⟨cf, i, a, b, w, rfl, h1, h2, h3⟩
  | succ n ih =>
    intro cf r h
    cases hs : xseg xPr cd call stop 300 cf with
    | none => simp [xgo, hs] at h
    | some cf2 =>
      simp only [xgo, hs] at h
      obtain ⟨cf1, i, a, b, w, k1, k2⟩ := ih h
      exact ⟨cf1, i, a, b, w, ⟨cf2, hs, k1⟩, k2⟩
/-- a method's configuration at its start -/
noncomputable def xstart (nL : Nat) (as : List xV) (C : xC) : xCf := (0, xentry as ++ List.replicate (nL - (xentry as).length) none, [], C)
/-- what a method does, to a depth of calls -/
noncomputable def xM : Nat → xCl
  | 0 => fun _ _ _ => none
  | d + 1 => fun j as C => match zget zMt j with
    | some (nL, cd) => (match zget xRk j with
      | some rk => cond (decide ((xentry as).length ≤ nL)) (xgoL cd (xM d) (xstop j) rk (xstart nL as C)) none
      | none => none)
    | none => none
theorem xM_none (d j : Nat) (as : List xV) (C : xC) (h : zget zMi j = none) : xM d j as C = none := by
  cases d with
  | zero => rfl
  | succ d =>
    have e := zCdOK_all.1 j h
    simp only [xM, e]
theorem xlen31 : ∀ t q kd ln ar, zget xtt t = some (q, .inr (kd, ln, ar)) → ln < 2147483648 := by
  have h : xtt.all (fun x => match x with
    | (_, .inr (_, ln, _)) => decide (ln < 2147483648)
    | _ => true) = true := by decide +kernel
  intro t q kd ln ar hz
  rw [zget_eq] at hz
  have := List.all_eq_true.mp h _ (List.mem_of_getElem? hz)
  simpa using this
theorem xM_ok (l : Launch) : ∀ d : Nat, xCallOk l ySr xtt zMi xRk (xM d) (d + 4) := by
  intro d
  induction d with
  | zero => intro j as C z C1 h; cases h
  | succ d ih =>
    intro j as C z C1 h y cc maxL ret kind na rk hj hrk b sz n xs D ca hb
    cases hm : zget zMt j with
    | none => simp only [xM, hm] at h; cases h
    | some q =>
      obtain ⟨nL, cd⟩ := q
      simp only [xM, hm, hrk] at h
      obtain ⟨e1, -⟩ := zCdOK_all.2 j y cc maxL ret kind na hj nL cd hm
      subst e1
      cases hl : decide ((xentry as).length ≤ nL) with
      | false => rw [hl] at h; cases h
      | true =>
        rw [hl] at h
        obtain ⟨N, hN⟩ := xgoL_some.mp (show xgoL cd (xM d) (xstop j) rk (xstart nL as C) = some (z, C1) from h)
        obtain ⟨cf1, i, a, b1, w, k1, k2, k3, k4⟩ := xgo_rch hN
        exact ⟨d + 4, by omega, xmeth (P := xPr) zClsOK_all zMiOK_all zCdOK_all (xM_none d) rfl xlen31 (by omega) ih hj hm hb (of_decide_eq_true hl) ⟨N, cf1, i, a, b1, w, k1, k2, k3, k4⟩⟩
end xWhole
