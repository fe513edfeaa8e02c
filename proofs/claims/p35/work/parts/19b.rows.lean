/-! Ghost facts of formulas: what they say of rows of ints, as pure mathematics. -/
section yGhost2
/-- brackets (20) of a row -/
def gBrk (o : Nat → Int) : Nat → Nat
  | 0 => 0
  | k + 1 => gBrk o k + (if o k = 20 then 1 else 0)
theorem gBrk_keep {o o1 : Nat → Int} : ∀ k : Nat, (∀ j, j < k → o j = o1 j) → gBrk o k = gBrk o1 k := by
  intro k
  induction k with
  | zero => intro _; rfl
  | succ k ih =>
    intro H
    show gBrk o k + _ = gBrk o1 k + _
    rw [ih fun j hj => H j (by omega), H k (by omega)]
theorem gBrk_mem {o : Nat → Int} : ∀ {hi k : Nat}, k < hi → o k = 20 → 1 ≤ gBrk o hi := by
  intro hi
  induction hi with
  | zero => intro k h; omega
  | succ hi ih =>
    intro k h hk
    show 1 ≤ gBrk o hi + (if o hi = 20 then 1 else 0)
    by_cases e : k = hi
    · subst e; rw [if_pos hk]; omega
    · have := ih (show k < hi by omega) hk
      omega
/-- so many binary signs, so many brackets stand below a place -/
def gOPEN (o : Nat → Int) (n b hi : Int) : Prop := 0 ≤ hi ∧ (gBin o hi.toNat : Int) = n ∧ (gBrk o hi.toNat : Int) = b
theorem gOPEN_keep {o o1 : Nat → Int} {n b hi : Int} (h : ∀ j : Nat, (j : Int) < hi → o j = o1 j) (H : gOPEN o n b hi) : gOPEN o1 n b hi := by
  obtain ⟨h0, h1, h2⟩ := H
  refine ⟨h0, ?_, ?_⟩
  · rw [← gBin_keep (o := o) hi.toNat fun j hj => h j (by omega)]; exact h1
  · rw [← gBrk_keep (o := o) hi.toNat fun j hj => h j (by omega)]; exact h2
theorem gOPEN_none {o : Nat → Int} : gOPEN o 0 0 0 := ⟨Int.le_refl 0, rfl, rfl⟩
theorem gBin_succ (o : Nat → Int) (k : Nat) : gBin o (k + 1) = gBin o k + (if o k = 21 ∨ o k = 20 then 0 else 1) := rfl
theorem gBrk_succ (o : Nat → Int) (k : Nat) : gBrk o (k + 1) = gBrk o k + (if o k = 20 then 1 else 0) := rfl
theorem gOPEN_up {o : Nat → Int} {n b hi : Int} (H : gOPEN o n b hi) : (o hi.toNat = 20 → gOPEN o n (b + 1) (hi + 1)) ∧ (o hi.toNat = 21 → gOPEN o n b (hi + 1)) ∧ (o hi.toNat ≠ 20 → o hi.toNat ≠ 21 → gOPEN o (n + 1) b (hi + 1)) := by
  obtain ⟨h0, h1, h2⟩ := H
  have e : (hi + 1).toNat = hi.toNat + 1 := by omega
  refine ⟨fun c => ⟨by omega, ?_, ?_⟩, fun c => ⟨by omega, ?_, ?_⟩, fun c d => ⟨by omega, ?_, ?_⟩⟩
  · rw [e, gBin_succ, if_pos (Or.inr c)]; omega
  · rw [e, gBrk_succ, if_pos c]; omega
  · rw [e, gBin_succ, if_pos (Or.inl c)]; omega
  · rw [e, gBrk_succ, if_neg (by rw [c]; omega)]; omega
  · rw [e, gBin_succ, if_neg (by rintro (x | x) <;> contradiction)]; omega
  · rw [e, gBrk_succ, if_neg c]; omega
theorem gOPEN_down {o : Nat → Int} {n b : Int} {j : Nat} (H : gOPEN o n b ((j : Int) + 1)) : (o j = 20 → 1 ≤ b ∧ gOPEN o n (b - 1) (j : Int)) ∧ (o j = 21 → gOPEN o n b (j : Int)) ∧ (o j ≠ 20 → o j ≠ 21 → 1 ≤ n ∧ gOPEN o (n - 1) b (j : Int)) := by
  obtain ⟨h0, h1, h2⟩ := H
  have e : ((j : Int) + 1).toNat = j + 1 := by omega
  have e1 : (j : Int).toNat = j := by omega
  rw [e, gBin_succ] at h1
  rw [e, gBrk_succ] at h2
  refine ⟨fun c => ?_, fun c => ?_, fun c d => ?_⟩
  · rw [if_pos (Or.inr c)] at h1; rw [if_pos c] at h2
    exact ⟨by omega, by omega, by rw [e1]; omega, by rw [e1]; omega⟩
  · rw [if_pos (Or.inl c)] at h1; rw [if_neg (by rw [c]; omega)] at h2
    exact ⟨by omega, by rw [e1]; omega, by rw [e1]; omega⟩
  · rw [if_neg (by rintro (x | x) <;> contradiction)] at h1; rw [if_neg c] at h2
    exact ⟨by omega, by omega, by rw [e1]; omega, by rw [e1]; omega⟩
theorem gBin_le (o : Nat → Int) : ∀ k : Nat, gBin o k + gBrk o k ≤ k := by
  intro k
  induction k with
  | zero => exact Nat.le_refl 0
  | succ k ih =>
    rw [gBin_succ, gBrk_succ]
    by_cases c : o k = 20
    · rw [if_pos (Or.inr c), if_pos c]; omega
    · rw [if_neg c]
      split <;> omega
theorem gOPEN_le {o : Nat → Int} {n b hi : Int} (H : gOPEN o n b hi) : n + b ≤ hi := by
  obtain ⟨h0, h1, h2⟩ := H
  have := gBin_le o hi.toNat
  omega
theorem gOPEN_at {o : Nat → Int} {n b hi : Int} {j : Nat} (H : gOPEN o n b hi) (hj : (j : Int) < hi) (h : o j = 20) : 1 ≤ b := by
  obtain ⟨h0, h1, h2⟩ := H
  have := gBrk_mem (o := o) (hi := hi.toNat) (k := j) (by omega) h
  omega
/-- legal steps from a place on, so high at the end -/
def gCU (s a : Nat → Int) (n lo hi : Int) : Prop := 0 ≤ lo ∧ lo ≤ hi ∧ gCUR s a n lo.toNat hi.toNat
theorem gCU_keep {s a s1 a1 : Nat → Int} {n lo hi : Int} (h : ∀ j : Nat, (j : Int) < hi → s j = s1 j ∧ a j = a1 j) (H : gCU s a n lo hi) : gCU s1 a1 n lo hi := by
  obtain ⟨h0, h1, h2⟩ := H
  refine ⟨h0, h1, ?_⟩
  unfold gCUR at *
  rw [← gRun_keep (s := s) (a := a) (hi.toNat - lo.toNat) lo.toNat 0 fun j g1 g2 => h j (by omega)]
  exact h2
theorem gCU_begin {s a : Nat → Int} {lo : Int} (h : 0 ≤ lo) : gCU s a 0 lo lo := ⟨h, Int.le_refl _, gCUR_begin⟩
theorem gCU_grow {s a : Nat → Int} {n lo hi z : Int} (H : gCU s a n lo hi) (hn : gNx (s hi.toNat) (a hi.toNat) n = some z) : gCU s a z lo (hi + 1) := by
  obtain ⟨h0, h1, h2⟩ := H
  refine ⟨h0, by omega, ?_⟩
  rw [show (hi + 1).toNat = hi.toNat + 1 by omega]
  exact gCUR_grow (by omega) (fun j _ => ⟨rfl, rfl⟩) h2 hn
/-- a formula's steps are legal and stand below a top -/
def gLeg (s a b m : Nat → Int) (top : Int) (f : Nat) : Prop := 0 ≤ b f ∧ 0 ≤ m f ∧ b f + m f ≤ top ∧ b f + m f ≤ 2400 ∧ gRUN s a 0 (b f).toNat (b f + m f).toNat
theorem gLeg_keep {s a b m s1 a1 b1 m1 : Nat → Int} {top top1 : Int} {f : Nat} (hb : b f = b1 f) (hm : m f = m1 f) (ht : b f + m f ≤ top → b f + m f ≤ top1) (hs : ∀ j : Nat, (j : Int) < b f + m f → s j = s1 j ∧ a j = a1 j) (H : gLeg s a b m top f) : gLeg s1 a1 b1 m1 top1 f := by
  obtain ⟨h0, h1, h2, h3, z, hz⟩ := H
  refine ⟨by rw [← hb]; exact h0, by rw [← hm]; exact h1, by rw [← hb, ← hm]; exact ht h2, by rw [← hb, ← hm]; exact h3, z, ?_⟩
  rw [← hb, ← hm, ← gRun_keep (s := s) (a := a) ((b f + m f).toNat - (b f).toNat) (b f).toNat 0 fun j g1 g2 => hs j (by omega)]
  exact hz
/-- a law's, a deed's number that there is -/
def gUW (nl nd w : Int) : Prop := 0 ≤ w ∧ (w < nl ∧ w < 5 ∨ 5 ≤ w ∧ w < 5 + nd ∧ w < 11)
/-- the formulas that there are -/
def gUsed (nl nd nb ng go ga : Int) (st : Nat → Int) (f : Nat) : Prop :=
  (∃ w j : Nat, gUW nl nd (w : Int) ∧ (f = 5 * w ∨ ((j : Int) < st w ∧ j < 4 ∧ f = 5 * w + 1 + j))) ∨ (55 ≤ f ∧ (f : Int) < 55 + nb ∧ f < 59) ∨ (61 ≤ f ∧ (f : Int) < 61 + ng ∧ f < 65) ∨ (f = 59 ∧ 1 ≤ go) ∨ (f = 60 ∧ 1 ≤ ga)
theorem gUsed_lt {nl nd nb ng go ga : Int} {st : Nat → Int} {f : Nat} (h : gUsed nl nd nb ng go ga st f) : f < 65 := by
  rcases h with ⟨w, j, ⟨h0, h1⟩, h2⟩ | h | h | h | h <;> omega
theorem gUsed_keep {nl nd nb ng go ga : Int} {st st1 : Nat → Int} {f : Nat} (hs : ∀ w, w < 11 → st w = st1 w) (h : gUsed nl nd nb ng go ga st f) : gUsed nl nd nb ng go ga st1 f := by
  rcases h with ⟨w, j, h1, h2⟩ | h
  · obtain ⟨q0, q1⟩ := id h1
    rw [hs w (by omega)] at h2
    exact Or.inl ⟨w, j, h1, h2⟩
  · exact Or.inr h
def gSame (x y : Nat → Int) (n : Int) : Prop := ∀ j : Nat, (j : Int) < n → x j = y j
-- of the land: K is what stands where
def gUsA (K : Nat → Nat → Int) (f : Nat) : Prop := gUsed (K 63 50) (K 63 51) (K 63 52) (K 63 53) (K 63 60) (K 63 61) (K 88) f
def gLgA (K : Nat → Nat → Int) (f : Nat) : Prop := gLeg (K 70) (K 71) (K 72) (K 73) 2400 f
def gAG (K : Nat → Nat → Int) : Prop := ∀ f, gUsA K f → gLgA K f
def gUWA (K : Nat → Nat → Int) (w : Int) : Prop := gUW (K 63 50) (K 63 51) w
def gLW (K : Nat → Nat → Int) (w : Int) : Prop := 0 ≤ w ∧ w < 65 ∧ gLgA K w.toNat
def gRW (K : Nat → Nat → Int) (n k w : Int) : Prop := 0 ≤ w ∧ w < 65 ∧ 0 ≤ K 72 w.toNat ∧ 0 ≤ K 73 w.toNat ∧ K 72 w.toNat + K 73 w.toNat ≤ 2400 ∧ 0 ≤ k ∧ gRUN (K 70) (K 71) n k.toNat (K 72 w.toNat + K 73 w.toNat).toNat
def gARG (K : Nat → Nat → Int) (lo hi : Int) : Prop := ∀ j : Nat, lo ≤ (j : Int) → (j : Int) < hi → 0 ≤ K 71 j ∧ K 71 j ≤ 7
theorem gRW_begin {K : Nat → Nat → Int} {w : Int} (H : gLW K w) : gRW K 0 (K 72 w.toNat) w := by
  obtain ⟨h0, h1, h2, h3, h4, h5, h6⟩ := H
  exact ⟨h0, h1, h2, h3, h5, h2, h6⟩
theorem gRW_use {K : Nat → Nat → Int} {n w : Int} {k : Nat} (H : gRW K n (k : Int) w) (h : (k : Int) < K 72 w.toNat + K 73 w.toNat) :
    (K 70 k = 0 ∧ n + 1 ≤ 64 ∧ gRW K (n + 1) ((k : Int) + 1) w) ∨ (K 70 k = 1 ∧ n + 1 ≤ 64 ∧ 0 ≤ K 71 k ∧ K 71 k ≤ 7 ∧ gRW K (n + 1) ((k : Int) + 1) w) ∨ (K 70 k = 2 ∧ 1 ≤ n ∧ gRW K n ((k : Int) + 1) w) ∨ (K 70 k ≠ 0 ∧ K 70 k ≠ 1 ∧ K 70 k ≠ 2 ∧ 2 ≤ n ∧ gRW K (n - 1) ((k : Int) + 1) w) := by
  obtain ⟨h0, h1, h2, h3, h4, h5, h6⟩ := H
  have e : ((k : Int) + 1).toNat = k + 1 := by omega
  rw [Int.toNat_natCast] at h6
  have mk : ∀ z : Int, gRUN (K 70) (K 71) z (k + 1) (K 72 w.toNat + K 73 w.toNat).toNat → gRW K z ((k : Int) + 1) w := fun z hz => ⟨h0, h1, h2, h3, h4, by omega, by rw [e]; exact hz⟩
  rcases gRUN_use h6 (by omega) with ⟨a, b, c⟩ | ⟨a, b, c, d, g⟩ | ⟨a, b, c⟩ | ⟨a, b, c, d, g⟩
  · exact Or.inl ⟨a, b, mk _ c⟩
  · exact Or.inr (Or.inl ⟨a, b, c, d, mk _ g⟩)
  · exact Or.inr (Or.inr (Or.inl ⟨a, b, mk _ c⟩))
  · exact Or.inr (Or.inr (Or.inr ⟨a, b, c, d, mk _ g⟩))
theorem gAG_none {K : Nat → Nat → Int} (h1 : K 63 50 ≤ 0) (h2 : K 63 51 ≤ 0) (h3 : K 63 52 ≤ 0) (h4 : K 63 53 ≤ 0) (h5 : K 63 60 ≤ 0) (h6 : K 63 61 ≤ 0) : gAG K := by
  intro f h
  rcases h with ⟨w, j, ⟨g0, g1⟩, g2⟩ | h | h | h | h <;> omega
theorem gAG_use {K : Nat → Nat → Int} {f : Int} (H : gAG K) (h0 : 0 ≤ f) (h : gUsA K f.toNat) : gLW K f := by
  have := gUsed_lt h
  exact ⟨h0, by omega, H _ h⟩
theorem gUsA_ent {K : Nat → Nat → Int} {f w : Int} (hw : gUWA K w) (h : f = 5 * w ∨ (5 * w + 1 ≤ f ∧ f ≤ 5 * w + 4 ∧ f ≤ 5 * w + K 88 w.toNat)) : 0 ≤ f ∧ gUsA K f.toNat := by
  obtain ⟨g0, g1⟩ := id hw
  refine ⟨by omega, Or.inl ⟨w.toNat, (f - 5 * w - 1).toNat, ?_, ?_⟩⟩
  · rw [show ((w.toNat : Nat) : Int) = w by omega]; exact hw
  · rcases h with h | ⟨h1, h2, h3⟩
    · left; omega
    · right; omega
-- of the text that is read
def gUsN (K : Nat → Nat → Int) (f : Nat) : Prop := gUsed (K 63 43) (K 63 44) (K 63 45) (K 63 46) (K 63 58) (K 63 59) (K 81) f
def gLgN (K : Nat → Nat → Int) (f : Nat) : Prop := gLeg (K 66) (K 67) (K 68) (K 69) (K 63 23) f
/-- without a fault: legal are those that there are but from a to c, and those from a to b -/
def gG (K : Nat → Nat → Int) (b a c : Int) : Prop := K 63 2 ≤ 0 → (∀ f : Nat, gUsN K f → ¬ (a ≤ (f : Int) ∧ (f : Int) < c) → gLgN K f) ∧ ∀ f : Nat, f < 65 → a ≤ (f : Int) → (f : Int) < b → gLgN K f
theorem gG_mono {K K1 : Nat → Nat → Int} {b a c : Int} (hf : K1 63 2 ≤ 0 → K 63 2 ≤ 0) (hu : ∀ f, gUsN K1 f → ¬ (a ≤ (f : Int) ∧ (f : Int) < c) → gUsN K f) (hl : ∀ f : Nat, f < 65 → (¬ (a ≤ (f : Int) ∧ (f : Int) < c) ∨ (a ≤ (f : Int) ∧ (f : Int) < b)) → gLgN K f → gLgN K1 f) (H : gG K b a c) : gG K1 b a c := by
  intro h0
  obtain ⟨h1, h2⟩ := H (hf h0)
  exact ⟨fun f g1 g2 => hl f (gUsed_lt g1) (Or.inl g2) (h1 f (hu f g1 g2) g2), fun f g0 g1 g2 => hl f g0 (Or.inr ⟨g1, g2⟩) (h2 f g0 g1 g2)⟩
theorem gG_fault {K : Nat → Nat → Int} {b a c : Int} (h : 1 ≤ K 63 2) : gG K b a c := fun h0 => by omega
theorem gG_none {K : Nat → Nat → Int} {b a c : Int} (hb : b ≤ a) (h1 : K 63 43 ≤ 0) (h2 : K 63 44 ≤ 0) (h3 : K 63 45 ≤ 0) (h4 : K 63 46 ≤ 0) (h5 : K 63 58 ≤ 0) (h6 : K 63 59 ≤ 0) : gG K b a c := by
  refine fun _ => ⟨fun f h _ => ?_, fun f _ g1 g2 => by omega⟩
  rcases h with ⟨w, j, ⟨g0, g1⟩, g2⟩ | h | h | h | h <;> omega
theorem gG_all {K : Nat → Nat → Int} {b a c b1 a1 c1 : Int} (H : gG K b a c) (hc : ∀ f : Nat, gUsN K f → a ≤ (f : Int) → (f : Int) < c → (f : Int) < b) (h1 : b1 ≤ a1) : gG K b1 a1 c1 := by
  refine fun h0 => ⟨fun f g1 _ => ?_, fun f _ g1 g2 => by omega⟩
  obtain ⟨q1, q2⟩ := H h0
  by_cases hf : a ≤ (f : Int) ∧ (f : Int) < c
  · exact q2 f (gUsed_lt g1) hf.1 (hc f g1 hf.1 hf.2)
  · exact q1 f g1 hf
theorem gG_ent {K : Nat → Nat → Int} {b a c w : Int} (h0 : 0 ≤ w) (h1 : w ≤ 10) (ha : a = 5 * w) (hc : c ≤ 5 * w + 5) (hb : 5 * w + 1 + K 81 w.toNat ≤ b) (hb1 : 5 * w + 1 ≤ b) : ∀ f : Nat, gUsN K f → a ≤ (f : Int) → (f : Int) < c → (f : Int) < b := by
  intro f h g1 g2
  rcases h with ⟨w1, j, ⟨q0, q1⟩, q2⟩ | h | h | h | h
  · have e : w1 = w.toNat := by omega
    subst e
    omega
  all_goals omega
theorem gG_next {K : Nat → Nat → Int} {b a c h lo hi : Int} (H : gG K b a c) (hb0 : 0 ≤ b) (hC : gCU (K 66) (K 67) h lo hi) (h1 : K 68 b.toNat = lo) (h2 : K 69 b.toNat = hi - lo) (h3 : hi ≤ K 63 23) (h4 : hi ≤ 2400) : gG K (b + 1) a c := by
  intro h0
  obtain ⟨q1, q2⟩ := H h0
  refine ⟨q1, fun f g0 g1 g2 => ?_⟩
  by_cases e : (f : Int) = b
  · obtain ⟨c0, c1, c2⟩ := hC
    have e1 : b.toNat = f := by omega
    rw [e1] at h1 h2
    refine ⟨by omega, by omega, by omega, by omega, ?_⟩
    rw [h1, h2, show lo + (hi - lo) = hi by omega]
    exact gCUR_run c2
  · exact q2 f g0 g1 (by omega)
theorem gAG_land {K : Nat → Nat → Int} {b a c n1 n2 n3 n4 n5 : Int} (H : gG K b a c) (hc : ∀ f : Nat, gUsN K f → a ≤ (f : Int) → (f : Int) < c → (f : Int) < b) (h0 : K 63 2 ≤ 0)
    (s1 : gSame (K 70) (K 66) n1) (s2 : gSame (K 71) (K 67) n2) (s3 : gSame (K 72) (K 68) n3) (s4 : gSame (K 73) (K 69) n4) (s5 : gSame (K 88) (K 81) n5) (m1 : K 63 23 ≤ n1) (m2 : K 63 23 ≤ n2) (m3 : 65 ≤ n3) (m4 : 65 ≤ n4) (m5 : 11 ≤ n5)
    (e1 : K 63 50 = K 63 43) (e2 : K 63 51 = K 63 44) (e3 : K 63 52 = K 63 45) (e4 : K 63 53 = K 63 46) (e5 : K 63 60 = K 63 58) (e6 : K 63 61 = K 63 59) : gAG K := by
  intro f hf
  have hf : gUsA K f := hf
  unfold gUsA at hf
  rw [e1, e2, e3, e4, e5, e6] at hf
  have hn : gUsN K f := gUsed_keep (fun w hw => s5 w (by omega)) hf
  have hlt := gUsed_lt hn
  obtain ⟨q1, q2⟩ := gG_all H hc (Int.le_refl 0) (c1 := 0) h0
  have L := q1 f hn (by omega)
  have b1 := s3 f (by omega)
  have b2 := s4 f (by omega)
  exact gLeg_keep b1.symm b2.symm (fun _ => L.2.2.2.1) (fun j hj => ⟨(s1 j (by have := L.2.2.1; omega)).symm, (s2 j (by have := L.2.2.1; omega)).symm⟩) L
end yGhost2
