/-! The class counts the calendars that fit. -/
section cFit
variable {T d r : Nat} {C F : xC} {t : eT} {c : tC} {f : Nat → Int} {nL : Nat} {D : Int} {K : eK} {k : Int}
theorem ct_fill_known (hd : 1 ≤ d) {v : Int} : ∃ F, xM d 272 [.inr (.inr (.inl (66, 55))), .inl v] C = some (0, F) ∧ (∀ j, j < 366 → F 66 j = v) ∧ (∀ i j, i ≠ 66 → F i j = C i j) := by
  obtain ⟨d, rfl⟩ := Nat.exists_eq_add_of_le' hd
  rw [xm_J7_fill_53178_known]
  have key : ∀ (m k : Nat) (E : xC), k + m = 366 → (∀ j, j < k → E 66 j = v) → (∀ i j, i ≠ 66 → E i j = C i j) → ∃ F, xw_J7_fill_53178_known d (5, [some (.inr (.inr (.inl (66, 55)))), some (.inl v), some (.inl (k : Int)), some (.inl 366)], [], E) = some (0, F) ∧ (∀ j, j < 366 → F 66 j = v) ∧ (∀ i j, i ≠ 66 → F i j = C i j) := by
    intro m
    induction m with
    | zero =>
      intro k E hk h1 h2
      refine ⟨E, ?_, fun j hj => h1 j (by omega), h2⟩
      rw [xl_J7_fill_53178_known_5]
      simp only [Bool.cond_decide]
      rw [if_pos (by omega)]
    | succ m ih =>
      intro k E hk h1 h2
      rw [xl_J7_fill_53178_known_5, xixn (n := 366) (show k < 366 by omega)]
      simp only [Bool.cond_decide, xna, Bool.and_true, cond_true]
      rw [if_neg (by omega), w32_s (by omega), Int.toNat_natCast]
      refine ih (k + 1) (xst E 66 k v) (by omega) (fun j hj => ?_) (fun i j hi => ?_)
      · by_cases hjk : j = k
        · rw [hjk, xst_at]
        · rw [xst_nn (by omega)]; exact h1 j (by omega)
      · rw [xst_nn (by omega)]; exact h2 i j hi
  exact key 366 0 C (by omega) (fun j hj => by omega) (fun i j _ => rfl)
theorem ct_fill_rest (hd : 1 ≤ d) {v : Int} : ∃ F, xM d 272 [.inr (.inr (.inl (69, 58))), .inl v] C = some (0, F) ∧ (∀ i j, i ≠ 69 → F i j = C i j) ∧ ∀ j, j < 5 → F 69 j = v := by
  obtain ⟨d, rfl⟩ := Nat.exists_eq_add_of_le' hd
  rw [xm_J7_fill_53178_restDays]
  have key : ∀ (m k : Nat) (E : xC), k + m = 5 → (∀ i j, i ≠ 69 → E i j = C i j) → (∀ j, j < k → E 69 j = v) → ∃ F, xw_J7_fill_53178_restDays d (5, [some (.inr (.inr (.inl (69, 58)))), some (.inl v), some (.inl (k : Int)), some (.inl 5)], [], E) = some (0, F) ∧ (∀ i j, i ≠ 69 → F i j = C i j) ∧ ∀ j, j < 5 → F 69 j = v := by
    intro m
    induction m with
    | zero =>
      intro k E hk h2 h3
      refine ⟨E, ?_, h2, fun j hj => h3 j (by omega)⟩
      rw [xl_J7_fill_53178_restDays_5]
      simp only [Bool.cond_decide]
      rw [if_pos (by omega)]
    | succ m ih =>
      intro k E hk h2 h3
      rw [xl_J7_fill_53178_restDays_5, xixn (n := 5) (show k < 5 by omega)]
      simp only [Bool.cond_decide, xna, Bool.and_true, cond_true]
      rw [if_neg (by omega), w32_s (by omega), Int.toNat_natCast]
      refine ih (k + 1) (xst E 69 k v) (by omega) (fun i j hi => by rw [xst_nn (by omega)]; exact h2 i j hi) (fun j hj => ?_)
      by_cases hjk : j = k
      · rw [hjk, xst_at]
      · rw [xst_nn (by omega)]; exact h3 j (by omega)
  exact key 5 0 C (by omega) (fun i j _ => rfl) (fun j hj => absurd hj (Nat.not_lt_zero j))
abbrev lkR : xV := .inr (.inr (.inl (59, 48)))
abbrev fR : xV := .inr (.inr (.inl (65, 54)))
abbrev nR : xV := .inr (.inr (.inl (66, 55)))
/-- the looks stand in the class's rows -/
def cLk (K : eK) (C : xC) : Prop := (C 59 0 = (K.1 : Int) ∧ C 59 2 = 60 ∧ C 59 3 = 61 ∧ C 59 4 = 62 ∧ C 59 5 = 63 ∧ C 59 6 = 64) ∧ ∀ l, l < K.1 → C 60 l = K.2.1 l ∧ C 61 l = K.2.2.1 l ∧ C 62 l = K.2.2.2.1 l ∧ C 63 l = K.2.2.2.2.1 l ∧ C 64 l = K.2.2.2.2.2 l
theorem cLk_same (h : cLk K C) (hs : ∀ i j, 59 ≤ i → i ≤ 64 → F i j = C i j) : cLk K F := by
  obtain ⟨⟨a1, a2, a3, a4, a5, a6⟩, h2⟩ := h
  exact ⟨⟨by rw [hs _ _ (by omega) (by omega), a1], by rw [hs _ _ (by omega) (by omega), a2], by rw [hs _ _ (by omega) (by omega), a3], by rw [hs _ _ (by omega) (by omega), a4], by rw [hs _ _ (by omega) (by omega), a5], by rw [hs _ _ (by omega) (by omega), a6]⟩, fun l hl => by rw [hs _ _ (by omega) (by omega), hs 61 _ (by omega) (by omega), hs 62 _ (by omega) (by omega), hs 63 _ (by omega) (by omega), hs 64 _ (by omega) (by omega)]; exact h2 l hl⟩
theorem cv_counts (hd : 1 ≤ d) (hK : kOk T K) (h : cLk K C) {l : Nat} (hl : l < K.1) : xM d 26 [lkR, .inl (l : Int), .inl k] C = some (if kCt K k l = true then 1 else 0, C) := by
  obtain ⟨d, rfl⟩ := Nat.exists_eq_add_of_le' hd
  obtain ⟨⟨a1, a2, a3, a4, a5, a6⟩, h2⟩ := h
  obtain ⟨g1, g2, g3, g4, g5⟩ := h2 l hl
  obtain ⟨k1, k2, k3⟩ := hK
  obtain ⟨-, -, -, u1⟩ := k3 l hl
  have e5 : (C 59 5).toNat = 63 := by rw [a5]; rfl
  have e6 : (C 59 6).toNat = 64 := by rw [a6]; rfl
  have x20 : xix (l : Int) 20 = true := xixn (by omega)
  rw [xm_X4_counts, x20, e5, e6, Int.toNat_natCast, g4, g5]
  simp only [Bool.cond_decide, cond_true]
  unfold kCt
  by_cases c1 : k < K.2.2.2.2.1 l
  · rw [if_pos c1, if_neg (by simp; omega)]
  · rw [if_neg c1]
    by_cases c2 : K.2.2.2.2.2 l = -1
    · rw [if_pos c2, if_pos (by simp; omega)]
    · rw [if_neg c2]
      by_cases c3 : K.2.2.2.2.2 l ≤ k
      · rw [if_pos c3, if_neg (by simp; omega)]
      · rw [if_neg c3, if_pos (by simp; omega)]
/-- the table of what is known, of the first looks -/
def kTb (K : eK) (k : Int) (m : Nat) (kn : Nat → Int) : Prop := ∀ x, x < 366 → (kn x ≠ -1 → ∃ l, l < m ∧ kCt K k l = true ∧ 6 * K.2.1 l + K.2.2.1 l = (x : Int) ∧ K.2.2.2.1 l = kn x) ∧ ∀ l, l < m → kCt K k l = true → 6 * K.2.1 l + K.2.2.1 l = (x : Int) → K.2.2.2.1 l = kn x
/-- two looks can't both be -/
def kBad (K : eK) (k : Int) : Prop := ∃ a b, a < K.1 ∧ b < K.1 ∧ kCt K k a = true ∧ kCt K k b = true ∧ 6 * K.2.1 a + K.2.2.1 a = 6 * K.2.1 b + K.2.2.1 b ∧ K.2.2.2.1 a ≠ K.2.2.2.1 b
theorem kBad_no (hK : kOk T K) (h : kBad K k) : eFits c f D nL K k = false := by
  obtain ⟨a, b, a1, b1, a2, b2, e, n⟩ := h
  obtain ⟨k1, k2, k3⟩ := hK
  obtain ⟨⟨p1, p2⟩, ⟨p3, p4⟩, -, -⟩ := k3 a a1
  obtain ⟨⟨q1, q2⟩, ⟨q3, q4⟩, -, -⟩ := k3 b b1
  cases hf : eFits c f D nL K k with
  | false => rfl
  | true =>
    have h1 := eFits_iff.mp hf a a1 a2
    have h2 := eFits_iff.mp hf b b1 b2
    unfold kHo at h1 h2
    have h1 := of_decide_eq_true h1
    have h2 := of_decide_eq_true h2
    have e1 : K.2.1 a = K.2.1 b := by omega
    have e2 : K.2.2.1 a = K.2.2.1 b := by omega
    rw [e1, e2, h2] at h1
    exact absurd h1.symm n
theorem cv_last (hK : kOk T K) : ∀ (m l : Nat) (last : Int) (C : xC) (o5 : Option xV), l + m = K.1 → cLk K C → kTb K k l (C 66) → (0 ≤ last ∧ last ≤ 60) → (∀ x, x < l → kCt K k x = true → K.2.1 x ≤ last) →
    ∃ (b : Int) (F : xC), xw_X4_lastKnown (d + 1) (10, [some lkR, some (.inl k), some nR, some (.inl last), some (.inl (l : Int)), o5], [], C) = some (b, F) ∧ (∀ i j, i ≠ 66 → F i j = C i j) ∧ ((b = -1 ∧ kBad K k) ∨ ((0 ≤ b ∧ b ≤ 60) ∧ kTb K k K.1 (F 66) ∧ ∀ x, x < K.1 → kCt K k x = true → K.2.1 x ≤ b)) := by
  intro m
  induction m with
  | zero =>
    intro l last C o5 hl hC hT h0 hx
    have hl : l = K.1 := hl
    subst hl
    refine ⟨last, C, ?_, fun _ _ _ => rfl, Or.inr ⟨h0, hT, hx⟩⟩
    rw [xl_X4_lastKnown_10, hC.1.1]
    simp only [Bool.cond_decide]
    rw [if_pos (Int.le_refl _)]
  | succ m ih =>
    intro l last C o5 hl hC hT h0 hx
    obtain ⟨k1, k2, k3⟩ := id hK
    obtain ⟨⟨p1, p2⟩, ⟨p3, p4⟩, p5, -⟩ := k3 l (by omega)
    obtain ⟨⟨a1, a2, a3, a4, a5, a6⟩, h2⟩ := id hC
    obtain ⟨g1, g2, g3, g4, g5⟩ := h2 l (by omega)
    have e2 : (C 59 2).toNat = 60 := by rw [a2]; rfl
    have e3 : (C 59 3).toNat = 61 := by rw [a3]; rfl
    have e4 : (C 59 4).toNat = 62 := by rw [a4]; rfl
    have x20 : xix (l : Int) 20 = true := xixn (by omega)
    obtain ⟨x, hxx⟩ : ∃ x : Nat, 6 * K.2.1 l + K.2.2.1 l = (x : Int) := ⟨(6 * K.2.1 l + K.2.2.1 l).toNat, by omega⟩
    have wx : w32 (w32 (K.2.1 l * 6) + K.2.2.1 l) = (x : Int) := by rw [w32_id (z := K.2.1 l * 6) (by omega) (by omega), w32_id (by omega) (by omega)]; omega
    have x366 : xix (x : Int) 366 = true := xixn (by omega)
    rw [xl_X4_lastKnown_10, a1, x20, e2, e3, Int.toNat_natCast, g1, g2, wx, cv_counts (by omega) hK hC (show l < K.1 by omega), w32_s (i := l) (by omega)]
    simp only [Bool.cond_decide, cond_true, Option.bind_some]
    rw [if_neg (show ¬ ((K.1 : Int) ≤ (l : Int)) by omega)]
    by_cases hc : kCt K k l = true
    · rw [if_pos hc, if_neg (show ¬ ((1 : Int) = 0) by decide), if_neg (show ¬ ((366 : Int) ≤ (x : Int)) by omega), x366, e4, Int.toNat_natCast, g3]
      simp only [cond_true, xna, Bool.and_true]
      have s2 : (xst C 66 x (K.2.2.2.1 l) 59 2).toNat = 60 := by rw [xst_nn (by omega), a2]; rfl
      have s3 : xst C 66 x (K.2.2.2.1 l) 60 l = K.2.1 l := by rw [xst_nn (by omega), g1]
      have hmx : 0 ≤ max last (K.2.1 l) ∧ max last (K.2.1 l) ≤ 60 := by omega
      have hC2 : cLk K (xst C 66 x (K.2.2.2.1 l)) := cLk_same hC fun i j q1 q2 => xst_nn (by omega)
      have hx2 : ∀ y, y < l + 1 → kCt K k y = true → K.2.1 y ≤ max last (K.2.1 l) := fun y hy hcy => by
        by_cases hyl : y = l
        · rw [hyl]; omega
        · have := hx y (by omega) hcy; omega
      have go : (C 66 x = -1 ∨ C 66 x = K.2.2.2.1 l) → ∃ (b : Int) (F : xC), xw_X4_lastKnown (d + 1) (10, [some lkR, some (.inl k), some nR, some (.inl (max last (K.2.1 l))), some (.inl ((l + 1 : Nat) : Int)), some (.inl (x : Int))], [], xst C 66 x (K.2.2.2.1 l)) = some (b, F) ∧ (∀ i j, i ≠ 66 → F i j = C i j) ∧ ((b = -1 ∧ kBad K k) ∨ ((0 ≤ b ∧ b ≤ 60) ∧ kTb K k K.1 (F 66) ∧ ∀ x, x < K.1 → kCt K k x = true → K.2.1 x ≤ b)) := by
        intro hor
        have hT2 : kTb K k (l + 1) (xst C 66 x (K.2.2.2.1 l) 66) := fun y hy => by
          obtain ⟨t1, t2⟩ := hT y hy
          by_cases hyx : y = x
          · subst hyx
            rw [xst_at]
            refine ⟨fun _ => ⟨l, by omega, hc, hxx, rfl⟩, fun z hz hcz hez => ?_⟩
            by_cases hzl : z = l
            · rw [hzl]
            · have hz2 := t2 z (by omega) hcz hez
              obtain ⟨-, -, z5, -⟩ := k3 z (by omega)
              rcases hor with w | w
              · omega
              · rw [hz2, w]
          · rw [xst_nn (by omega)]
            refine ⟨fun hne => ?_, fun z hz hcz hez => ?_⟩
            · obtain ⟨z, z1, z2, z3, z4⟩ := t1 hne
              exact ⟨z, by omega, z2, z3, z4⟩
            · by_cases hzl : z = l
              · rw [hzl, hxx] at hez
                omega
              · exact t2 z (by omega) hcz hez
        obtain ⟨b, F, f1, f2, f3⟩ := ih (l + 1) (max last (K.2.1 l)) (xst C 66 x (K.2.2.2.1 l)) (some (.inl (x : Int))) (by omega) hC2 hT2 hmx hx2
        exact ⟨b, F, f1, fun i j hi => by rw [f2 i j hi, xst_nn (by omega)], f3⟩
      by_cases hm1 : C 66 x = -1
      · rw [if_pos hm1, s2, s3]
        exact go (Or.inl hm1)
      · rw [if_neg hm1]
        by_cases hsame : C 66 x = K.2.2.2.1 l
        · rw [if_pos hsame, s2, s3]
          exact go (Or.inr hsame)
        · rw [if_neg hsame]
          obtain ⟨z, z1, z2, z3, z4⟩ := (hT x (by omega)).1 hm1
          exact ⟨-1, C, rfl, fun _ _ _ => rfl, Or.inl ⟨rfl, z, l, by omega, by omega, z2, hc, by omega, fun q => hsame (by rw [← z4, q])⟩⟩
    · rw [if_neg hc, if_pos (show (0 : Int) = 0 from rfl)]
      have hT2 : kTb K k (l + 1) (C 66) := fun y hy => by
        obtain ⟨t1, t2⟩ := hT y hy
        refine ⟨fun hne => ?_, fun z hz hcz hez => ?_⟩
        · obtain ⟨z, z1, z2, z3, z4⟩ := t1 hne
          exact ⟨z, by omega, z2, z3, z4⟩
        · by_cases hzl : z = l
          · rw [hzl] at hcz; exact absurd hcz hc
          · exact t2 z (by omega) hcz hez
      exact ih (l + 1) last C (some (.inl (x : Int))) (by omega) hC hT2 h0 fun y hy hcy => by
        by_cases hyl : y = l
        · rw [hyl] at hcy; exact absurd hcy hc
        · exact hx y (by omega) hcy
theorem cv_lastK (hd : 2 ≤ d) (hK : kOk T K) (hC : cLk K C) : ∃ (b : Int) (F : xC), xM d 27 [lkR, .inl k, nR] C = some (b, F) ∧ (∀ i j, i ≠ 66 → F i j = C i j) ∧ ((b = -1 ∧ kBad K k) ∨ ((0 ≤ b ∧ b ≤ 60) ∧ kTb K k K.1 (F 66) ∧ ∀ x, x < K.1 → kCt K k x = true → K.2.1 x ≤ b)) := by
  obtain ⟨d, rfl⟩ := Nat.exists_eq_add_of_le' hd
  obtain ⟨F1, f1, f2, f3⟩ := ct_fill_known (d := d + 1) (C := C) (v := -1) (by omega)
  rw [xm_X4_lastKnown, f1]
  simp only [Option.bind_some]
  obtain ⟨b, F, g1, g2, g3⟩ := cv_last (d := d) (k := k) hK K.1 0 0 F1 none (by omega) (cLk_same hC fun i j q1 q2 => f3 i j (by omega)) (fun x hx => ⟨fun hne => absurd (f2 x hx) hne, fun l hl => absurd hl (by omega)⟩) ⟨Int.le_refl _, by decide⟩ (fun x hx => absurd hx (by omega))
  exact ⟨b, F, g1, fun i j hi => (g2 i j hi).trans (f3 i j hi), g3⟩
/-- what is known of an hour holds -/
def okH (kn : Nat → Int) (h : Nat) (t : eT) : Prop := ∀ i, i < 6 → kn (6 * h + i) = -1 ∨ kn (6 * h + i) = t.1 i
/-- of things that aren't there nothing is known -/
def knT (T : Nat) (kn : Nat → Int) : Prop := ∀ h i, h ≤ 60 → i < 6 → kn (6 * h + i) ≠ -1 → i < T
theorem kTb_T (hK : kOk T K) {kn : Nat → Int} (h : kTb K k K.1 kn) : knT T kn := fun h' i hh hi hne => by
  obtain ⟨l, l1, l2, l3, l4⟩ := (h (6 * h' + i) (by omega)).1 hne
  obtain ⟨-, -, k3⟩ := hK
  obtain ⟨⟨p1, p2⟩, ⟨p3, p4⟩, -, -⟩ := k3 l l1
  omega
theorem cv_asKnown (hd : 1 ≤ d) (hf : C 65 3 = 66 ∧ C 65 1 = 37 ∧ C 37 5 = 38) {h : Nat} (hh : h ≤ 60) (hkn : knT T (C 66)) (ht : ∀ j, j < T → C 38 j = t.1 j) :
    ∃ b : Int, xM d 13 [fR, .inl (h : Int)] C = some (b, C) ∧ ((b = 1 ∧ okH (C 66) h t) ∨ (b = 0 ∧ ¬ okH (C 66) h t)) := by
  obtain ⟨d, rfl⟩ := Nat.exists_eq_add_of_le' hd
  obtain ⟨f1, f2, f3⟩ := hf
  have e3 : (C 65 3).toNat = 66 := by rw [f1]; rfl
  have e1 : (C 65 1).toNat = 37 := by rw [f2]; rfl
  have e5 : (C 37 5).toNat = 38 := by rw [f3]; rfl
  rw [xm_X2_asKnown]
  have key : ∀ (m i : Nat) (o3 : Option xV), i + m = 6 → (∀ j, j < i → C 66 (6 * h + j) = -1 ∨ C 66 (6 * h + j) = t.1 j) → ∃ b : Int, xw_X2_asKnown d (2, [some fR, some (.inl (h : Int)), some (.inl (i : Int)), o3], [], C) = some (b, C) ∧ ((b = 1 ∧ okH (C 66) h t) ∨ (b = 0 ∧ ¬ okH (C 66) h t)) := by
    intro m
    induction m with
    | zero =>
      intro i o3 hi hall
      refine ⟨1, ?_, Or.inl ⟨rfl, fun j hj => hall j (by omega)⟩⟩
      rw [xl_X2_asKnown_2]
      simp only [Bool.cond_decide]
      rw [if_pos (by omega)]
    | succ m ih =>
      intro i o3 hi hall
      have x366 : xix ((6 * h + i : Nat) : Int) 366 = true := xixn (by omega)
      have x6 : xix (i : Int) 6 = true := xixn (by omega)
      have ws : w32 ((i : Int) + 1) = ((i + 1 : Nat) : Int) := w32_s (by omega)
      have wx : w32 (w32 ((h : Int) * 6) + (i : Int)) = ((6 * h + i : Nat) : Int) := by clear ws; rw [w32_id (z := (h : Int) * 6) (by omega) (by omega), w32_id (by omega) (by omega)]; omega
      rw [xl_X2_asKnown_2, wx, x366, x6, e3, e1, e5, Int.toNat_natCast, Int.toNat_natCast, ws]
      clear wx ws
      simp only [Bool.cond_decide, cond_true]
      rw [if_neg (show ¬ ((6 : Int) ≤ (i : Int)) by omega)]
      by_cases hm : C 66 (6 * h + i) = -1
      · rw [if_pos hm]
        refine ih (i + 1) _ (by omega) fun j hj => ?_
        by_cases hji : j = i
        · rw [hji]; exact Or.inl hm
        · exact hall j (by omega)
      · rw [if_neg hm]
        have hiT : i < T := hkn h i hh (by omega) hm
        rw [ht i hiT]
        by_cases hq : C 66 (6 * h + i) = t.1 i
        · rw [if_pos hq]
          refine ih (i + 1) _ (by omega) fun j hj => ?_
          by_cases hji : j = i
          · rw [hji]; exact Or.inr hq
          · exact hall j (by omega)
        · rw [if_neg hq]
          exact ⟨0, rfl, Or.inr ⟨rfl, fun hok => (hok i (by omega)).elim hm hq⟩⟩
  exact key 6 0 none (by omega) fun j hj => absurd hj (by omega)
/-- the cells that a calendar lived through changes -/
def cSN (i j : Nat) : Bool := decide (cSM i j = true ∨ i = 67)
theorem cSM_N {i j : Nat} (h : cSN i j = false) : cSM i j = false := by
  simp only [cSN, decide_eq_false_iff_not] at h
  cases hh : cSM i j with
  | true => exact absurd (Or.inl hh) h
  | false => rfl
theorem cE_67 {t : eT} (h : cE T r c f nL D t C) (hs : ∀ i j, i ≠ 67 → F i j = C i j) : cE T r c f nL D t F := by
  obtain ⟨⟨s1, s2, s3, s4, s5, s6, s7, s8, s9, s10⟩, h2, h3, h4, h5⟩ := h
  exact ⟨⟨by rw [hs _ _ (by omega), s1], by rw [hs _ _ (by omega), s2], by rw [hs _ _ (by omega), s3], by rw [hs _ _ (by omega), s4], by rw [hs _ _ (by omega), s5], by rw [hs _ _ (by omega), s6], by rw [hs _ _ (by omega), s7], fun j hj => by rw [hs _ _ (by omega), s8 j hj], s9, fun k hk => by rw [hs _ _ (by omega), s10 k hk]⟩, cLd_same s9 h2 fun i j q1 q2 => hs i j (by omega), by rw [hs _ _ (by omega), h3], by rw [hs _ _ (by omega), h4], fun l hl => by rw [hs _ _ (by omega), h5 l hl]⟩
/-- what lies of a calendar behind its hours -/
def fitQ (T : Nat) (c : tC) (f : Nat → Int) (D : Int) (nL : Nat) (last h : Nat) (as : Int) (C : xC) (b : Int) (F : xC) : Prop := ((b = 1 ∧ (∀ h', h ≤ h' → h' ≤ last → okH (C 66) h' (eRun c f D nL h' (e0 c))) ∧ (∀ ha : Nat, as = (ha : Int) → h ≤ ha → ha ≤ last → ∀ j, j < 6 → F 67 j = if j < T then (eRun c f D nL ha (e0 c)).1 j else C 38 j) ∧ (as < (h : Int) → ∀ j, F 67 j = C 67 j)) ∨ (b = 0 ∧ ∃ h', h' ≤ last ∧ ¬ okH (C 66) h' (eRun c f D nL h' (e0 c))))
abbrev fitP (T : Nat) (c : tC) (f : Nat → Int) (D : Int) (nL : Nat) (last h : Nat) (as : Int) (C : xC) (b : Int) (F : xC) : Prop := xSm cSN C F ∧ (∀ j, T ≤ j → F 38 j = C 38 j) ∧ fitQ T c f D nL last h as C b F
theorem cv_fitting (hd : 5 ≤ d) (hc : eLok T c nL) (h2 : 2 ≤ D) (h9 : D ≤ 9) {last : Nat} (hl60 : last ≤ 60) {as : Int} : ∀ (m h : Nat) (C : xC), h + m = last + 1 → C 65 3 = 66 ∧ C 65 1 = 37 ∧ C 65 4 = 67 → knT T (C 66) → cE T r c f nL D (eRun c f D nL (h - 1) (e0 c)) C →
    ∃ (b : Int) (F : xC), xw_X2_fitting d (2, [some fR, some (.inl (last : Int)), some (.inl as), some (.inl (h : Int))], [], C) = some (b, F) ∧ fitP T c f D nL last h as C b F := by
  intro m
  induction m with
  | zero =>
    intro h C hh hf hkn hE
    refine ⟨1, C, ?_, xSm_refl, fun _ _ => rfl, Or.inl ⟨rfl, fun h' q1 q2 => absurd q1 (by omega), fun ha _ q1 q2 => absurd q1 (by omega), fun _ _ => rfl⟩⟩
    rw [xl_X2_fitting_2]
    simp only [Bool.cond_decide]
    rw [if_pos (by omega)]
  | succ m ih =>
    intro h C hh hf hkn hE
    have e1 : (C 65 1).toNat = 37 := by rw [hf.2.1]; rfl
    -- behind the hour
    have step : ∀ F1, cE T r c f nL D (eRun c f D nL h (e0 c)) F1 → xSm cSM C F1 → (∀ j, T ≤ j → F1 38 j = C 38 j) →
        ∃ (b : Int) (F : xC), ((xM d 13 [fR, .inl (h : Int)] F1).bind fun q1 => if q1.1 ≠ 0 then (if (h : Int) ≠ as then xw_X2_fitting d (2, [some fR, some (.inl (last : Int)), some (.inl as), some (.inl ((h + 1 : Nat) : Int))], [], q1.2) else xw_X2_fitting d (2, [some fR, some (.inl (last : Int)), some (.inl as), some (.inl ((h + 1 : Nat) : Int))], [], xcp q1.2 ((q1.2 (q1.2 65 1).toNat 5).toNat) 0 ((q1.2 65 4).toNat) 0 6)) else some (0, q1.2)) = some (b, F) ∧ fitP T c f D nL last h as C b F := by
      intro F1 hE1 hs1 hT1
      have k66 : F1 66 = C 66 := funext fun j => hs1 66 j rfl
      have hf1 : F1 65 3 = 66 ∧ F1 65 1 = 37 ∧ F1 65 4 = 67 := ⟨(hs1 _ _ rfl).trans hf.1, (hs1 _ _ rfl).trans hf.2.1, (hs1 _ _ rfl).trans hf.2.2⟩
      obtain ⟨b1, a1, a2⟩ := cv_asKnown (d := d) (T := T) (by omega) ⟨hf1.1, hf1.2.1, hE1.1.2.1⟩ (show h ≤ 60 by omega) (by rw [k66]; exact hkn) hE1.1.2.2.2.2.2.2.2.1
      rw [a1]
      simp only [Option.bind_some]
      rw [k66] at a2
      have hsN : xSm cSN C F1 := xSm_mono hs1 fun _ _ => cSM_N
      rcases a2 with ⟨rfl, a2⟩ | ⟨rfl, a2⟩
      · rw [if_pos (show (1 : Int) ≠ 0 by decide)]
        by_cases hha : (h : Int) = as
        · rw [if_neg (show ¬ ((h : Int) ≠ as) from fun q => q hha)]
          have e5 : (F1 (F1 65 1).toNat 5).toNat = 38 := by
            rw [hf1.2.1]
            show (F1 37 5).toNat = 38
            rw [hE1.1.2.1]
            rfl
          have e67 : (F1 65 4).toNat = 67 := by rw [hf1.2.2]; rfl
          rw [e5, e67]
          generalize hG : xcp F1 38 0 67 0 6 = G
          have kG : ∀ i j, i ≠ 67 → G i j = F1 i j := fun i j q => by
            rw [← hG]
            exact if_neg fun w => q w.1
          have k67 : ∀ j, j < 6 → G 67 j = F1 38 j := fun j hj => by
            rw [← hG]
            show (if 67 = 67 ∧ 0 ≤ j ∧ j < 0 + 6 then F1 38 (0 + (j - 0)) else F1 67 j) = F1 38 j
            rw [if_pos ⟨rfl, Nat.zero_le _, by omega⟩]
            congr 1
            omega
          have kG66 : G 66 = C 66 := by rw [← k66]; exact funext fun j => kG 66 j (by decide)
          obtain ⟨b, F, g1, g2, g3, g4⟩ := ih (h + 1) G (by omega) ⟨(kG _ _ (by decide)).trans hf1.1, (kG _ _ (by decide)).trans hf1.2.1, (kG _ _ (by decide)).trans hf1.2.2⟩ (by rw [kG66]; exact hkn) (by rw [Nat.add_sub_cancel]; exact cE_67 hE1 kG)
          unfold fitQ at g4
          rw [kG66] at g4
          have hsG : xSm cSN C G := fun i j q => by
            rw [kG i j (fun w => by rw [w] at q; simp [cSN] at q)]
            exact hsN i j q
          refine ⟨b, F, g1, xSm_trans hsG g2, fun j hj => by rw [g3 j hj, kG _ _ (by decide), hT1 j hj], ?_⟩
          rcases g4 with ⟨g4, g5, g6, g7⟩ | g4
          · refine Or.inl ⟨g4, fun h' q1 q2 => ?_, fun ha q0 q1 q2 j hj => ?_, fun q => absurd q (by omega)⟩
            · by_cases hq : h' = h
              · rw [hq]; exact a2
              · exact g5 h' (by omega) q2
            · have e : ha = h := by omega
              rw [g7 (by omega) j, k67 j hj, e]
              by_cases hjT : j < T
              · rw [if_pos hjT, hE1.1.2.2.2.2.2.2.2.1 j hjT]
              · rw [if_neg hjT, hT1 j (by omega)]
          · exact Or.inr g4
        · rw [if_pos (show (h : Int) ≠ as from hha)]
          obtain ⟨b, F, g1, g2, g3, g4⟩ := ih (h + 1) F1 (by omega) hf1 (by rw [k66]; exact hkn) (by rw [Nat.add_sub_cancel]; exact hE1)
          unfold fitQ at g4
          rw [k66] at g4
          refine ⟨b, F, g1, xSm_trans hsN g2, fun j hj => by rw [g3 j hj, hT1 j hj], ?_⟩
          rcases g4 with ⟨g4, g5, g6, g7⟩ | g4
          · refine Or.inl ⟨g4, fun h' q1 q2 => ?_, fun ha q0 q1 q2 j hj => ?_, fun q j => by rw [g7 (by omega) j, hs1 67 j rfl]⟩
            · by_cases hq : h' = h
              · rw [hq]; exact a2
              · exact g5 h' (by omega) q2
            · rw [g6 ha q0 (by omega) q2 j hj]
              by_cases hjT : j < T
              · rw [if_pos hjT, if_pos hjT]
              · rw [if_neg hjT, if_neg hjT, hT1 j (by omega)]
          · exact Or.inr g4
      · rw [if_neg (show ¬ ((0 : Int) ≠ 0) from fun q => q rfl)]
        exact ⟨0, F1, rfl, hsN, hT1, Or.inr ⟨rfl, h, by omega, a2⟩⟩
    rw [xl_X2_fitting_2, e1, w32_s (i := h) (by omega)]
    simp only [Bool.cond_decide]
    rw [if_neg (show ¬ ((last : Int) < (h : Int)) by omega)]
    by_cases h0 : h = 0
    · rw [if_pos (show (h : Int) ≤ 0 by omega)]
      subst h0
      exact step C hE xSm_refl fun _ _ => rfl
    · rw [if_neg (show ¬ ((h : Int) ≤ 0) by omega)]
      obtain ⟨F1, p1, p2, p3, p4⟩ := cv_hour (d := d) hd hc h2 h9 (eRun_ok (f := f) hc h2 (h - 1)) hE
      rw [p1]
      simp only [Option.bind_some]
      refine step F1 ?_ p3 p4
      obtain ⟨h', rfl⟩ := Nat.exists_eq_add_of_le' (show 1 ≤ h by omega)
      exact p2
/-- the table says what the looks say -/
theorem kTb_fits (hK : kOk T K) {kn : Nat → Int} (h : kTb K k K.1 kn) {last : Nat} (hl60 : last ≤ 60) (hl : ∀ x, x < K.1 → kCt K k x = true → K.2.1 x ≤ (last : Int)) : (∀ h', h' ≤ last → okH kn h' (eRun c f D nL h' (e0 c))) ↔ eFits c f D nL K k = true := by
  obtain ⟨k1, k2, k3⟩ := hK
  rw [eFits_iff]
  constructor
  · intro hall l hl1 hc
    obtain ⟨⟨p1, p2⟩, ⟨p3, p4⟩, p5, -⟩ := k3 l hl1
    have := hl l hl1 hc
    obtain ⟨H, hH⟩ : ∃ H : Nat, K.2.1 l = (H : Int) := ⟨(K.2.1 l).toNat, by omega⟩
    obtain ⟨i, hi⟩ : ∃ i : Nat, K.2.2.1 l = (i : Int) := ⟨(K.2.2.1 l).toNat, by omega⟩
    have hs := (h (6 * H + i) (by omega)).2 l hl1 hc (by omega)
    unfold kHo
    rw [hH, hi, Int.toNat_natCast, Int.toNat_natCast]
    refine decide_eq_true ?_
    rcases hall H (by omega) i (by omega) with w | w
    · omega
    · rw [hs, w]
  · intro hall h' hh i hi
    by_cases hm : kn (6 * h' + i) = -1
    · exact Or.inl hm
    · right
      obtain ⟨l, l1, l2, l3, l4⟩ := (h (6 * h' + i) (by omega)).1 hm
      obtain ⟨⟨p1, p2⟩, ⟨p3, p4⟩, p5, -⟩ := k3 l l1
      have e1 : K.2.1 l = (h' : Int) := by omega
      have e2 : K.2.2.1 l = (i : Int) := by omega
      have hk := hall l l1 l2
      unfold kHo at hk
      rw [e1, e2, Int.toNat_natCast, Int.toNat_natCast] at hk
      have hk := of_decide_eq_true hk
      rw [← l4, ← hk]
/-- what is seen of a calendar that fits is counted -/
theorem cv_noteA (hd : 1 ≤ d) (hf : C 65 2 = 70 ∧ C 65 6 = 69 ∧ C 65 4 = 67 ∧ C 65 5 = 68) (hT : cTr T r c f nL D C) (h5 : nL ≤ 5) {as : Int} (has : as ≠ -1) (hs : ∀ j, j < 6 → 0 ≤ C 67 j ∧ C 67 j ≤ 999) (hb : ∀ i v, i < 6 → v < 1000 → 0 ≤ C 68 (1000 * i + v) ∧ C 68 (1000 * i + v) ≤ 100000) : ∃ F, xM d 14 [fR, .inl as] C = some (0, F) ∧ (∀ i j, i ≠ 69 → i ≠ 68 → F i j = C i j) ∧ ∀ i v, i < 6 → v < 1000 → F 68 (1000 * i + v) = C 68 (1000 * i + v) + (if C 67 i = (v : Int) then 1 else 0) := by
  obtain ⟨d, rfl⟩ := Nat.exists_eq_add_of_le' hd
  rw [xm_X2_noteFit]
  have key2 : ∀ (m l : Nat) (E : xC), l + m = 6 → (∀ i j, i ≠ 69 → i ≠ 68 → E i j = C i j) → (∀ i v, i < l → v < 1000 → E 68 (1000 * i + v) = C 68 (1000 * i + v) + (if C 67 i = (v : Int) then 1 else 0)) → (∀ x, 1000 * l ≤ x → E 68 x = C 68 x) → ∃ F, xw_X2_noteFit d (46, [some fR, some (.inl as), some (.inl (l : Int))], [], E) = some (0, F) ∧ (∀ i j, i ≠ 69 → i ≠ 68 → F i j = C i j) ∧ ∀ i v, i < 6 → v < 1000 → F 68 (1000 * i + v) = C 68 (1000 * i + v) + (if C 67 i = (v : Int) then 1 else 0) := by
    intro m
    induction m with
    | zero =>
      intro l E hl hE h1 h2
      have hl : l = 6 := hl
      subst hl
      refine ⟨E, ?_, hE, h1⟩
      rw [xl_X2_noteFit_46]
      simp only [Bool.cond_decide]
      rw [if_pos (by decide)]
    | succ m ih =>
      intro l E hl hE h1 h2
      have x6 : xix (l : Int) 6 = true := xixn (by omega)
      obtain ⟨s1, s2⟩ := hs l (by omega)
      obtain ⟨s, hsl⟩ : ∃ s : Nat, C 67 l = (s : Int) := ⟨(C 67 l).toNat, by omega⟩
      have hE67 : E 67 l = (s : Int) := by rw [hE _ _ (by decide) (by decide), hsl]
      have x60 : xix ((1000 * l + s : Nat) : Int) 6000 = true := xixn (by omega)
      obtain ⟨b1, b2⟩ := hb l s (by omega) (by omega)
      have hv : E 68 (1000 * l + s) = C 68 (1000 * l + s) := h2 _ (by omega)
      have hlt : ¬ ((6 : Int) ≤ (l : Int)) := by clear hv; omega
      have ws : w32 ((l : Int) + 1) = ((l + 1 : Nat) : Int) := by clear hv; exact w32_s (by omega)
      have w2 : w32 (C 68 (1000 * l + s) + 1) = C 68 (1000 * l + s) + 1 := by clear hv ws; exact w32_id (by omega) (by omega)
      have w1 : w32 (w32 ((l : Int) * 1000) + (s : Int)) = ((1000 * l + s : Nat) : Int) := by
        clear hv ws w2
        rw [w32_id (z := (l : Int) * 1000) (by omega) (by omega), w32_id (by omega) (by omega)]
        omega
      have e4 : (E 65 4).toNat = 67 := by rw [hE _ _ (by decide) (by decide), hf.2.2.1]; rfl
      have e5 : (E 65 5).toNat = 68 := by rw [hE _ _ (by decide) (by decide), hf.2.2.2]; rfl
      rw [xl_X2_noteFit_46, x6, e4, e5, Int.toNat_natCast, hE67, w1, x60, Int.toNat_natCast, hv, w2, ws]
      clear w1 w2 ws e4 e5 hv
      simp only [Bool.cond_decide, cond_true, xna, Bool.and_true]
      rw [if_neg hlt, if_neg has]
      refine ih (l + 1) _ (by omega) (fun i j q1 q2 => by rw [xst_nn (by omega), hE i j q1 q2]) (fun i v hi hv1 => ?_) (fun x hx => by rw [xst_nn (by omega), h2 x (by omega)])
      by_cases hil : i = l
      · subst hil
        by_cases hvs : v = s
        · rw [hvs, xst_at, if_pos (by rw [hsl])]
        · rw [xst_nn (by omega), h2 _ (by omega), if_neg (by rw [hsl]; omega)]
          omega
      · rw [xst_nn (by omega), h1 i v (by omega) hv1]
  have key : ∀ (m l : Nat) (E : xC), l + m = nL → (∀ i j, i ≠ 69 → E i j = C i j) → ∃ F, xw_X2_noteFit d (2, [some fR, some (.inl as), some (.inl (l : Int))], [], E) = some (0, F) ∧ (∀ i j, i ≠ 69 → i ≠ 68 → F i j = C i j) ∧ ∀ i v, i < 6 → v < 1000 → F 68 (1000 * i + v) = C 68 (1000 * i + v) + (if C 67 i = (v : Int) then 1 else 0) := by
    intro m
    induction m with
    | zero =>
      intro l E hl hE
      have e2 : (E 65 2).toNat = 70 := by rw [hE _ _ (by omega), hf.1]; rfl
      have e0 : (E 70 0).toNat = r := by rw [hE _ _ (by omega), hT.1.1]; rfl
      have hr := hT.2.2.2.2.1
      have e4 : (E r 4).toNat = r + 1 := by rw [hE _ _ (by omega), hT.2.2.2.2.2.1 0 (by decide)]; rfl
      have eL : E (r + 1) 1 = (nL : Int) := by rw [hE _ _ (by omega), hT.2.2.2.2.2.2.2]
      rw [xl_X2_noteFit_2, e2, e0, e4, eL]
      simp only [Bool.cond_decide]
      rw [if_pos (by omega)]
      exact key2 6 0 E (by omega) (fun i j q _ => hE i j q) (fun i v hi _ => absurd hi (Nat.not_lt_zero i)) (fun x _ => hE _ _ (by decide))
    | succ m ih =>
      intro l E hl hE
      have e2 : (E 65 2).toNat = 70 := by rw [hE _ _ (by omega), hf.1]; rfl
      have e6 : (E 65 6).toNat = 69 := by rw [hE _ _ (by omega), hf.2.1]; rfl
      have e0 : (E 70 0).toNat = r := by rw [hE _ _ (by omega), hT.1.1]; rfl
      have hr := hT.2.2.2.2.1
      have e4 : (E r 4).toNat = r + 1 := by rw [hE _ _ (by omega), hT.2.2.2.2.2.1 0 (by decide)]; rfl
      have eL : E (r + 1) 1 = (nL : Int) := by rw [hE _ _ (by omega), hT.2.2.2.2.2.2.2]
      have x5 : xix (l : Int) 5 = true := xixn (by omega)
      have x9 : xix (l : Int) 9 = true := xixn (by omega)
      rw [xl_X2_noteFit_2, e2, e0, e4, eL, x5, x9, e6, Int.toNat_natCast, w32_s (by omega)]
      simp only [Bool.cond_decide, cond_true, xna, Bool.and_true]
      rw [if_neg (show ¬ ((nL : Int) ≤ (l : Int)) by omega)]
      exact ih (l + 1) _ (by omega) fun i j hi => by rw [xst_nn (by omega), hE i j hi]
  exact key nL 0 C (by omega) fun _ _ _ => rfl
theorem ct_fill_left (hd : 1 ≤ d) {v : Int} : ∃ F, xM d 272 [.inr (.inr (.inl (68, 57))), .inl v] C = some (0, F) ∧ (∀ i j, i ≠ 68 → F i j = C i j) ∧ ∀ j, j < 6000 → F 68 j = v := by
  obtain ⟨d, rfl⟩ := Nat.exists_eq_add_of_le' hd
  rw [xm_J7_fill_53178_left]
  have key : ∀ (m k : Nat) (E : xC), k + m = 6000 → (∀ i j, i ≠ 68 → E i j = C i j) → (∀ j, j < k → E 68 j = v) → ∃ F, xw_J7_fill_53178_left d (5, [some (.inr (.inr (.inl (68, 57)))), some (.inl v), some (.inl (k : Int)), some (.inl 6000)], [], E) = some (0, F) ∧ (∀ i j, i ≠ 68 → F i j = C i j) ∧ ∀ j, j < 6000 → F 68 j = v := by
    intro m
    induction m with
    | zero =>
      intro k E hk h2 h3
      refine ⟨E, ?_, h2, fun j hj => h3 j (by omega)⟩
      rw [xl_J7_fill_53178_left_5]
      simp only [Bool.cond_decide]
      rw [if_pos (by omega)]
    | succ m ih =>
      intro k E hk h2 h3
      have x60 : xix (k : Int) 6000 = true := xixn (by omega)
      rw [xl_J7_fill_53178_left_5, x60, Int.toNat_natCast, w32_s (by omega)]
      simp only [Bool.cond_decide, cond_true, xna, Bool.and_true]
      rw [if_neg (show ¬ ((6000 : Int) ≤ (k : Int)) by omega)]
      refine ih (k + 1) _ (by omega) (fun i j hi => by rw [xst_nn (by omega), h2 i j hi]) (fun j hj => ?_)
      by_cases hjk : j = k
      · rw [hjk, xst_at]
      · rw [xst_nn (by omega), h3 j (by omega)]
  exact key 6000 0 C (by omega) (fun _ _ _ => rfl) (fun j hj => absurd hj (Nat.not_lt_zero j))
end cFit
