/-! The class cuts a text into its tokens. -/
section cCut
variable {g : Nat → Int} {N d : Nat} {C : xC}
def cS0 (i j : Nat) : Bool := decide (i = 27 ∨ i = 28 ∨ i = 29 ∨ (i = 26 ∧ j = 2))
theorem cTx_same {F : xC} (h : cTx g N C) (hs : xSm cS0 C F) : cTx g N F := by
  obtain ⟨a1, a2, ⟨a3, a4, a5⟩, a6, a7⟩ := h
  exact ⟨(hs _ _ rfl).trans a1, (hs _ _ rfl).trans a2, ⟨(hs _ _ rfl).trans a3, (hs _ _ rfl).trans a4, (hs _ _ rfl).trans a5⟩, a6, fun j hj => (hs _ _ (by simp [cS0])).trans (a7 j hj)⟩
/-- so many tokens are cut -/
def cTb (g : Nat → Int) (N c : Nat) (C : xC) : Prop := C 26 2 = (c : Int) ∧ ∀ i, i < c → C 27 i = tkK g N i ∧ C 28 i = tkP g N i ∧ (tkK g N i ≤ 23 → C 29 i = tkV g N i)
theorem ct_row (hd : 1 ≤ d) (hT : cTx g N C) {c p : Nat} {a v : Int} (hb : cTb g N c C) (hc : c ≤ 1700) (hp : rdP g N c = p) (ha : a = rdK g N p) (hv : rdK g N p ≤ 23 → v = rdVal g N p) :
    ∃ F, xM d 88 [kR, .inl a, .inl (p : Int), .inr (.inl v)] C = some (0, F) ∧ cTb g N (c + 1) F ∧ xSm cS0 C F := by
  obtain ⟨d, rfl⟩ := Nat.exists_eq_add_of_le' hd
  obtain ⟨t0, t1, ⟨t3, t4, t5⟩, t6, t7⟩ := hT
  obtain ⟨b1, b2⟩ := hb
  have e3 : (C 26 3).toNat = 27 := by rw [t3]; rfl
  have e4 : (C 26 4).toNat = 28 := by rw [t4]; rfl
  have e5 : (C 26 5).toNat = 29 := by rw [t5]; rfl
  have eix : xix (c : Int) 1701 = true := xixn (by omega)
  refine ⟨xst (xst (xst (xst C 27 c a) 28 c (p : Int)) 29 c v) 26 2 ((c + 1 : Nat) : Int), ?_, ⟨by rw [xst_at], fun i hi => ?_⟩, xSm_st (xSm_st (xSm_st (xSm_st xSm_refl (by simp [cS0])) (by simp [cS0])) (by simp [cS0])) rfl⟩
  · rw [xm_X9_put]
    have f1 : (xst C 27 c a) 26 2 = (c : Int) := by rw [xst_nn (by omega), b1]
    have f4 : (xst C 27 c a) 26 4 = C 26 4 := by rw [xst_nn (by omega)]
    have f2 : (xst (xst C 27 c a) 28 c (p : Int)) 26 2 = (c : Int) := by rw [xst_nn (by omega), f1]
    have f5 : (xst (xst C 27 c a) 28 c (p : Int)) 26 5 = C 26 5 := by rw [xst_nn (by omega), xst_nn (by omega)]
    have f6 : (xst (xst (xst C 27 c a) 28 c (p : Int)) 29 c v) 26 2 = (c : Int) := by rw [xst_nn (by omega), f2]
    simp only [b1, e3, Int.toNat_natCast, f1, f4, e4, f2, f5, e5, f6, eix, xna, Bool.and_self, cond_true, Bool.cond_decide]
    rw [if_neg (show ¬ (1700 < (c : Int)) by omega), w32_s (by omega)]
  · by_cases hic : i = c
    · subst hic
      refine ⟨?_, ?_, fun q => ?_⟩
      · rw [xst_nn (by omega), xst_nn (by omega), xst_nn (by omega), xst_at, ha, ← hp]; rfl
      · rw [xst_nn (by omega), xst_nn (by omega), xst_at, ← hp]; rfl
      · rw [xst_nn (by omega), xst_at, hv (by rw [← hp]; exact q), ← hp]; rfl
    · obtain ⟨q1, q2, q3⟩ := b2 i (by omega)
      refine ⟨?_, ?_, fun q => ?_⟩
      · rw [xst_nn (by omega), xst_nn (by omega), xst_nn (by omega), xst_nn (by omega), q1]
      · rw [xst_nn (by omega), xst_nn (by omega), xst_nn (by omega), xst_nn (by omega), q2]
      · rw [xst_nn (by omega), xst_nn (by omega), xst_nn (by omega), xst_nn (by omega), q3 q]
theorem w64_id {z : Int} (h1 : -9223372036854775808 ≤ z) (h2 : z ≤ 9223372036854775807) : w64 z = z := Int.bmod_eq_of_le (by omega) (by omega)
theorem w64_let {V x : Int} (h1 : 0 ≤ V) (h2 : V < 282429536481) (h3 : 97 ≤ x ∧ x ≤ 122) : w64 (w64 (V * 27) + w32 (w32 (x - 97) + 1)) = V * 27 + (x - 96) := by
  rw [w64_id (z := V * 27) (by omega) (by omega), w32_id (z := x - 97) (by omega) (by omega), w32_id (by omega) (by omega), w64_id (by omega) (by omega)]
  omega
theorem w64_dig {V x : Int} (h1 : 0 ≤ V) (h2 : V < 10000) (h3 : 48 ≤ x ∧ x ≤ 57) : w64 (w64 (V * 10) + w32 (x - 48)) = V * 10 + (x - 48) := by
  rw [w64_id (z := V * 10) (by omega) (by omega), w32_id (z := x - 48) (by omega) (by omega), w64_id (by omega) (by omega)]
theorem ct_cutWord (hd : 3 ≤ d) (hT : cTx g N C) {c p : Nat} (hb : cTb g N c C) (hc : c ≤ 1700) (hp : rdP g N c = p) (hpN : p < N) (hl : rdLet (g p) = true) :
    ∃ F, xM d 86 [kR, .inl (p : Int)] C = some (((rdE g N p : Nat) : Int), F) ∧ cTb g N (c + 1) F ∧ xSm cS0 C F := by
  obtain ⟨d, rfl⟩ := Nat.exists_eq_add_of_le' (show 1 ≤ d by omega)
  rw [xm_X9_cutWord]
  have hTT := hT
  obtain ⟨t0, t1, -, t6, t7⟩ := hT
  have e0 : (C 26 0).toNat = 1 := by rw [t0]; rfl
  have hE : rdE g N p = rdEnd rdLet g N p := by rw [rdE, if_neg (by omega), if_pos hl]
  have hK : rdK g N p = if 8 < rdEnd rdLet g N p - p then 25 else rdKw (rdV 256 0 g p (rdEnd rdLet g N p - p)) := by rw [rdK, if_neg (by omega), if_pos hl]
  have hV : rdVal g N p = rdV 27 96 g p (rdEnd rdLet g N p - p) := by rw [rdVal, if_neg (by omega), if_pos hl]
  obtain ⟨s1, s2, s3, s4⟩ := rdEnd_spec (P := rdLet) (g := g) (N := N) p
  have s2 := s2 (by omega)
  rw [hE]
  have stop : ∀ (w : Int), (rdEnd rdLet g N p - p ≤ 8 → w = rdV 27 96 g p (rdEnd rdLet g N p - p)) → ∃ F, (if w32 (((rdEnd rdLet g N p : Nat) : Int) - (p : Int)) ≤ 8 then (xM d 89 [kR, .inl (p : Int), .inl ((rdEnd rdLet g N p : Nat) : Int)] C).bind fun q1 => (xM d 88 [kR, .inl q1.1, .inl (p : Int), .inr (.inl w)] q1.2).bind fun q2 => some (((rdEnd rdLet g N p : Nat) : Int), q2.2)
      else (xM d 88 [kR, .inl 25, .inl (p : Int), .inr (.inl w)] C).bind fun q3 => some (((rdEnd rdLet g N p : Nat) : Int), q3.2)) = some (((rdEnd rdLet g N p : Nat) : Int), F) ∧ cTb g N (c + 1) F ∧ xSm cS0 C F := by
    intro w hw
    rw [w32_d (i := rdEnd rdLet g N p) (j := p) (by omega) s1]
    by_cases h8 : rdEnd rdLet g N p - p ≤ 8
    · rw [if_pos (show ((rdEnd rdLet g N p - p : Nat) : Int) ≤ 8 by omega), ct_wordKind (by omega) hTT s1 s2 h8 s3]
      simp only [Option.bind_some]
      obtain ⟨F, k1, k2, k3⟩ := ct_row (d := d) (a := rdKw (rdV 256 0 g p (rdEnd rdLet g N p - p))) (v := w) (by omega) hTT hb hc hp (by rw [hK, if_neg (by omega)]) (fun _ => by rw [hV]; exact hw h8)
      exact ⟨F, by rw [k1]; rfl, k2, k3⟩
    · rw [if_neg (show ¬ ((rdEnd rdLet g N p - p : Nat) : Int) ≤ 8 by omega)]
      obtain ⟨F, k1, k2, k3⟩ := ct_row (d := d) (a := 25) (v := w) (by omega) hTT hb hc hp (by rw [hK, if_pos (by omega)]) (fun q => by rw [hK, if_pos (by omega)] at q; omega)
      exact ⟨F, by rw [k1]; rfl, k2, k3⟩
  have key : ∀ (m i : Nat) (w : Int), N ≤ i + m → p ≤ i → i ≤ N → rdEnd rdLet g N i = rdEnd rdLet g N p → (∀ j, p ≤ j → j < i → rdLet (g j) = true) → (i - p ≤ 8 → w = rdV 27 96 g p (i - p)) →
      ∃ F, xw_X9_cutWord d (7, [some kR, some (.inl (p : Int)), some (.inl (i : Int)), some (.inr (.inl w)), none, some (.inl (i : Int))], [], C) = some (((rdEnd rdLet g N p : Nat) : Int), F) ∧ cTb g N (c + 1) F ∧ xSm cS0 C F := by
    intro m
    induction m with
    | zero =>
      intro i w h1 h2 h3 h4 h5 h6
      have hi : rdEnd rdLet g N i = i := rdEnd_off (by omega)
      rw [hi] at h4
      rw [xl_X9_cutWord_7]
      simp only [Bool.cond_decide]
      rw [if_pos (by omega), h4]
      exact stop w (fun h => by rw [← h4]; exact h6 (by omega))
    | succ m ih =>
      intro i w h1 h2 h3 h4 h5 h6
      by_cases hb : i < N ∧ rdLet (g i) = true
      · have hs : rdEnd rdLet g N (i + 1) = rdEnd rdLet g N p := by rw [← rdEnd_on hb.1 hb.2, h4]
        have hg := rdLet_iff.mp hb.2
        obtain ⟨F, k1, k2⟩ := ih (i + 1) (w64 (w64 (w * 27) + w32 (w32 (g i - 97) + 1))) (by omega) (by omega) (by omega) hs (fun j j1 j2 => by
          by_cases hji : j = i
          · rw [hji]; exact hb.2
          · exact h5 j j1 (by omega)) (fun h => by
          have hw := h6 (by omega)
          have hrun : ∀ j, j < i - p → rdLet (g (p + j)) = true := fun j hj => h5 (p + j) (by omega) (by omega)
          obtain ⟨v1, v2, -⟩ := rdC_V (g := g) (p := p) (i - p) (i - p) (Nat.le_refl _) hrun
          have v3 : (27 : Int) ^ (i - p) ≤ 282429536481 := rd27 ▸ rdPow27 (by omega)
          rw [hw, w64_let v1 (by omega) hg, show i + 1 - p = (i - p) + 1 by omega]
          simp only [rdV]
          rw [show p + (i - p) = i by omega])
        refine ⟨F, ?_, k2⟩
        rw [← k1, xl_X9_cutWord_7]
        simp only [Bool.cond_decide]
        rw [if_neg (by omega), xixn (n := 1700) (show i < 1700 by omega), e0, Int.toNat_natCast, t7 i hb.1, ct_isLetter (by omega), if_pos hb.2]
        simp only [cond_true, Option.bind_some]
        rw [if_neg (by decide), e0, t7 i hb.1, w32_s (by omega)]
      · have hi : rdEnd rdLet g N i = i := rdEnd_off hb
        rw [hi] at h4
        rw [xl_X9_cutWord_7]
        simp only [Bool.cond_decide]
        by_cases hiN : N ≤ i
        · rw [if_pos (by omega), h4]
          exact stop w (fun h => by rw [← h4]; exact h6 (by omega))
        · rw [if_neg (by omega), xixn (n := 1700) (show i < 1700 by omega), e0, Int.toNat_natCast, t7 i (by omega), ct_isLetter (by omega), if_neg (fun q => hb ⟨by omega, q⟩)]
          simp only [cond_true, Option.bind_some]
          rw [if_pos trivial, h4]
          exact stop w (fun h => by rw [← h4]; exact h6 (by omega))
  exact key (N - p) p 0 (by omega) (Nat.le_refl p) (by omega) rfl (fun j j1 j2 => by omega) (fun _ => by rw [Nat.sub_self]; rfl)
theorem ct_cutNumber (hd : 3 ≤ d) (hT : cTx g N C) {c p : Nat} (hb : cTb g N c C) (hc : c ≤ 1700) (hp : rdP g N c = p) (hpN : p < N) (hl0 : ¬ rdLet (g p) = true) (hl : rdDig (g p) = true) :
    ∃ F, xM d 87 [kR, .inl (p : Int)] C = some (((rdE g N p : Nat) : Int), F) ∧ cTb g N (c + 1) F ∧ xSm cS0 C F := by
  obtain ⟨d, rfl⟩ := Nat.exists_eq_add_of_le' (show 1 ≤ d by omega)
  rw [xm_X9_cutNumber]
  have hTT := hT
  obtain ⟨t0, t1, -, t6, t7⟩ := hT
  have e0 : (C 26 0).toNat = 1 := by rw [t0]; rfl
  have hE : rdE g N p = rdEnd rdDig g N p := by rw [rdE, if_neg (by omega), if_neg hl0, if_pos hl]
  have hK : rdK g N p = if 4 < rdEnd rdDig g N p - p ∨ (rdEnd rdDig g N p < N ∧ rdLet (g (rdEnd rdDig g N p)) = true) then 25 else 23 := by rw [rdK, if_neg (by omega), if_neg hl0, if_pos hl]
  have hV : rdVal g N p = rdV 10 48 g p (rdEnd rdDig g N p - p) := by rw [rdVal, if_neg (by omega), if_neg hl0, if_pos hl]
  obtain ⟨s1, s2, s3, s4⟩ := rdEnd_spec (P := rdDig) (g := g) (N := N) p
  have s2 := s2 (by omega)
  rw [hE]
  generalize hee : rdEnd rdDig g N p = e at *
  have stop : ∀ (w : Int), (e - p ≤ 4 → w = rdV 10 48 g p (e - p)) → ∃ F, (if 4 < w32 ((e : Int) - (p : Int)) then (xM d 88 [kR, .inl 25, .inl (p : Int), .inr (.inl w)] C).bind fun q1 => some ((e : Int), q1.2)
      else if C 26 1 ≤ (e : Int) then (xM d 88 [kR, .inl 23, .inl (p : Int), .inr (.inl w)] C).bind fun q2 => some ((e : Int), q2.2)
      else cond (xix (e : Int) 1700) ((xM d 92 [.inl (C (C 26 0).toNat (((e : Int)).toNat))] C).bind fun q3 => if q3.1 = 0 then (xM d 88 [kR, .inl 23, .inl (p : Int), .inr (.inl w)] q3.2).bind fun q4 => some ((e : Int), q4.2) else (xM d 88 [kR, .inl 25, .inl (p : Int), .inr (.inl w)] q3.2).bind fun q5 => some ((e : Int), q5.2)) none) = some ((e : Int), F) ∧ cTb g N (c + 1) F ∧ xSm cS0 C F := by
    intro w hw
    have bad : (4 < e - p ∨ (e < N ∧ rdLet (g e) = true)) → ∃ F, ((xM d 88 [kR, .inl 25, .inl (p : Int), .inr (.inl w)] C).bind fun q1 => some ((e : Int), q1.2)) = some ((e : Int), F) ∧ cTb g N (c + 1) F ∧ xSm cS0 C F := by
      intro hh
      obtain ⟨F, k1, k2, k3⟩ := ct_row (d := d) (a := 25) (v := w) (by omega) hTT hb hc hp (by rw [hK, if_pos hh]) (fun q => by rw [hK, if_pos hh] at q; omega)
      exact ⟨F, by rw [k1]; rfl, k2, k3⟩
    have good : ¬ (4 < e - p ∨ (e < N ∧ rdLet (g e) = true)) → ∃ F, ((xM d 88 [kR, .inl 23, .inl (p : Int), .inr (.inl w)] C).bind fun q1 => some ((e : Int), q1.2)) = some ((e : Int), F) ∧ cTb g N (c + 1) F ∧ xSm cS0 C F := by
      intro hh
      obtain ⟨F, k1, k2, k3⟩ := ct_row (d := d) (a := 23) (v := w) (by omega) hTT hb hc hp (by rw [hK, if_neg hh]) (fun q => by rw [hV]; exact hw (by omega))
      exact ⟨F, by rw [k1]; rfl, k2, k3⟩
    rw [w32_d (i := e) (j := p) (by omega) s1]
    by_cases h4 : 4 < e - p
    · rw [if_pos (show 4 < ((e - p : Nat) : Int) by omega)]
      exact bad (Or.inl h4)
    · rw [if_neg (show ¬ 4 < ((e - p : Nat) : Int) by omega), t1]
      by_cases heN : N ≤ e
      · rw [if_pos (by omega)]
        exact good (by omega)
      · rw [if_neg (by omega), xixn (n := 1700) (show e < 1700 by omega), e0, Int.toNat_natCast, t7 e (by omega), ct_isLetter (by omega)]
        simp only [cond_true, Option.bind_some]
        by_cases hle : rdLet (g e) = true
        · rw [if_pos hle, if_neg (by decide)]
          exact bad (Or.inr ⟨by omega, hle⟩)
        · rw [if_neg hle, if_pos rfl]
          exact good (fun q => q.elim h4 (fun q => hle q.2))
  have key : ∀ (m i : Nat) (w : Int), N ≤ i + m → p ≤ i → i ≤ N → rdEnd rdDig g N i = e → (∀ j, p ≤ j → j < i → rdDig (g j) = true) → (i - p ≤ 4 → w = rdV 10 48 g p (i - p)) →
      ∃ F, xw_X9_cutNumber d (7, [some kR, some (.inl (p : Int)), some (.inl (i : Int)), some (.inr (.inl w)), none, some (.inl (i : Int))], [], C) = some ((e : Int), F) ∧ cTb g N (c + 1) F ∧ xSm cS0 C F := by
    intro m
    induction m with
    | zero =>
      intro i w h1 h2 h3 h4 h5 h6
      have hi : rdEnd rdDig g N i = i := rdEnd_off (by omega)
      rw [hi] at h4
      subst h4
      obtain ⟨F, k1, k2⟩ := stop w h6
      refine ⟨F, ?_, k2⟩
      rw [← k1, xl_X9_cutNumber_7]
      simp only [Bool.cond_decide]
      rw [if_pos (show C 26 1 ≤ (i : Int) by omega)]
    | succ m ih =>
      intro i w h1 h2 h3 h4 h5 h6
      by_cases hb : i < N ∧ rdDig (g i) = true
      · have hs : rdEnd rdDig g N (i + 1) = e := by rw [← rdEnd_on hb.1 hb.2, h4]
        have hg := rdDig_iff.mp hb.2
        obtain ⟨F, k1, k2⟩ := ih (i + 1) (w64 (w64 (w * 10) + w32 (g i - 48))) (by omega) (by omega) (by omega) hs (fun j j1 j2 => by
          by_cases hji : j = i
          · rw [hji]; exact hb.2
          · exact h5 j j1 (by omega)) (fun h => by
          have hw := h6 (by omega)
          have hrun : ∀ j, j < i - p → rdDig (g (p + j)) = true := fun j hj => h5 (p + j) (by omega) (by omega)
          obtain ⟨v1, v2⟩ := rdV_10 (g := g) (p := p) (i - p) hrun
          have v3 : (10 : Int) ^ (i - p) ≤ 10 ^ 4 := rdPow10 (by omega)
          rw [hw, w64_dig v1 (by omega) hg, show i + 1 - p = (i - p) + 1 by omega]
          simp only [rdV]
          rw [show p + (i - p) = i by omega])
        refine ⟨F, ?_, k2⟩
        rw [← k1, xl_X9_cutNumber_7]
        simp only [Bool.cond_decide]
        rw [if_neg (by omega), xixn (n := 1700) (show i < 1700 by omega), e0, Int.toNat_natCast, t7 i hb.1, ct_isDigit (by omega), if_pos hb.2]
        simp only [cond_true, Option.bind_some]
        rw [if_neg (by decide), e0, t7 i hb.1, w32_s (by omega)]
      · have hi : rdEnd rdDig g N i = i := rdEnd_off hb
        rw [hi] at h4
        subst h4
        obtain ⟨F, k1, k2⟩ := stop w h6
        refine ⟨F, ?_, k2⟩
        rw [← k1, xl_X9_cutNumber_7]
        simp only [Bool.cond_decide]
        by_cases hiN : N ≤ i
        · rw [if_pos (show C 26 1 ≤ (i : Int) by omega)]
        · rw [if_neg (show ¬ C 26 1 ≤ (i : Int) by omega), xixn (n := 1700) (show i < 1700 by omega), e0, Int.toNat_natCast, t7 i (by omega), ct_isDigit (by omega), if_neg (fun q => hb ⟨by omega, q⟩)]
          simp only [cond_true, Option.bind_some]
          rw [if_pos trivial, e0, t7 i (by omega)]
  exact key (N - p) p 0 (by omega) (Nat.le_refl p) (by omega) hee (fun j j1 j2 => by omega) (fun _ => by rw [Nat.sub_self]; rfl)
theorem ct_cutOne (hd : 4 ≤ d) (hT : cTx g N C) {c p : Nat} (hb : cTb g N c C) (hc : c ≤ 1700) (hp : rdP g N c = p) (hpN : p < N) :
    ∃ F, xM d 85 [kR, .inl (p : Int)] C = some (((rdE g N p : Nat) : Int), F) ∧ cTb g N (c + 1) F ∧ xSm cS0 C F := by
  obtain ⟨d, rfl⟩ := Nat.exists_eq_add_of_le' (show 1 ≤ d by omega)
  have hTT := hT
  obtain ⟨t0, t1, -, t6, t7⟩ := hT
  have e0 : (C 26 0).toNat = 1 := by rw [t0]; rfl
  rw [xm_X9_cutOne, xixn (n := 1700) (show p < 1700 by omega), e0, Int.toNat_natCast, t7 p hpN, ct_isLetter (by omega)]
  simp only [cond_true, Option.bind_some, Bool.cond_decide]
  by_cases hl : rdLet (g p) = true
  · rw [if_pos hl, if_neg (by decide)]
    obtain ⟨F, k1, k2, k3⟩ := ct_cutWord (d := d) (by omega) hTT hb hc hp hpN hl
    exact ⟨F, by rw [k1]; rfl, k2, k3⟩
  · rw [if_neg hl, if_pos rfl, ct_isDigit (by omega)]
    simp only [Option.bind_some]
    by_cases hg : rdDig (g p) = true
    · rw [if_pos hg, if_neg (by decide)]
      obtain ⟨F, k1, k2, k3⟩ := ct_cutNumber (d := d) (by omega) hTT hb hc hp hpN hl hg
      exact ⟨F, by rw [k1]; rfl, k2, k3⟩
    · have hE : rdE g N p = p + 1 := by rw [rdE, if_neg (by omega), if_neg hl, if_neg hg]
      rw [if_neg hg, if_pos rfl, ct_isSign (by omega), hE]
      simp only [Option.bind_some]
      by_cases hs : rdSgn (g p) = true
      · rw [if_pos hs, if_neg (by decide)]
        have hK : rdK g N p = g p := by rw [rdK, if_neg (by omega), if_neg hl, if_neg hg, if_pos hs]
        have hsr := rdSg_iff.mp (rdSgn_iff.mp hs)
        obtain ⟨F, k1, k2, k3⟩ := ct_row (d := d) (a := g p) (v := 0) (by omega) hTT hb hc hp hK.symm (fun q => by rw [hK] at q; omega)
        exact ⟨F, by rw [k1, w32_s (by omega)]; rfl, k2, k3⟩
      · rw [if_neg hs, if_pos rfl]
        have hK : rdK g N p = 25 := by rw [rdK, if_neg (by omega), if_neg hl, if_neg hg, if_neg hs]
        obtain ⟨F, k1, k2, k3⟩ := ct_row (d := d) (a := 25) (v := 0) (by omega) hTT hb hc hp hK.symm (fun q => by rw [hK] at q; omega)
        exact ⟨F, by rw [k1, w32_s (by omega)]; rfl, k2, k3⟩
/-- all tokens, the end behind them -/
theorem ct_cut (hd : 5 ≤ d) (h0 : C 26 0 = 1) (hr : C 26 3 = 27 ∧ C 26 4 = 28 ∧ C 26 5 = 29) (hN : N ≤ 1700) (hg : ∀ j, j < N → C 1 j = g j) :
    ∃ F c, xM d 84 [kR, .inl (N : Int)] C = some (0, F) ∧ cTb g N (c + 1) F ∧ tkK g N c = 24 ∧ (∀ i, i < c → tkK g N i ≠ 24) ∧ c ≤ 1700 ∧ (∀ i j, i ≠ 26 → cS0 i j = false → F i j = C i j) ∧ (F 26 3 = 27 ∧ F 26 4 = 28 ∧ F 26 5 = 29) := by
  obtain ⟨d, rfl⟩ := Nat.exists_eq_add_of_le' (show 1 ≤ d by omega)
  rw [xm_X9_cut]
  have hT : cTx g N (xst (xst C 26 1 (N : Int)) 26 2 0) := ⟨by rw [xst_nn (by omega), xst_nn (by omega), h0], by rw [xst_nn (by omega), xst_at], ⟨by rw [xst_nn (by omega), xst_nn (by omega), hr.1], by rw [xst_nn (by omega), xst_nn (by omega), hr.2.1], by rw [xst_nn (by omega), xst_nn (by omega), hr.2.2]⟩, hN, fun j hj => by rw [xst_nn (by omega), xst_nn (by omega)]; exact hg j hj⟩
  have hb : cTb g N 0 (xst (xst C 26 1 (N : Int)) 26 2 0) := ⟨by rw [xst_at]; rfl, fun i hi => by omega⟩
  have key : ∀ (m c p k : Nat) (E : xC), N ≤ p + m → k ≤ p → p ≤ N → c ≤ p → rdEnd rdBlk g N p = rdP g N c → cTx g N E → cTb g N c E → (∀ i, i < c → tkK g N i ≠ 24) →
      ∃ F c', xw_X9_cut d (14, [some kR, some (.inl (N : Int)), some (.inl (p : Int)), some (.inl (k : Int))], [], E) = some (0, F) ∧ cTb g N (c' + 1) F ∧ tkK g N c' = 24 ∧ (∀ i, i < c' → tkK g N i ≠ 24) ∧ c' ≤ 1700 ∧ xSm cS0 E F := by
    have fin : ∀ (c p : Nat) (E : xC), N ≤ p → p ≤ N → c ≤ p → rdEnd rdBlk g N p = rdP g N c → cTx g N E → cTb g N c E → (∀ i, i < c → tkK g N i ≠ 24) →
        ∃ F c', ((xM d 88 [kR, .inl 24, .inl (E 26 1), .inr (.inl 0)] E).bind fun q1 => some ((0 : Int), q1.2)) = some (0, F) ∧ cTb g N (c' + 1) F ∧ tkK g N c' = 24 ∧ (∀ i, i < c' → tkK g N i ≠ 24) ∧ c' ≤ 1700 ∧ xSm cS0 E F := by
      intro c p E h1 h2 h3 h4 h5 h6 h7
      have hpN : rdP g N c = N := by rw [← h4, rdEnd_off (by omega)]; omega
      have h24 : rdK g N N = 24 := rdK_24.mpr (Nat.le_refl N)
      obtain ⟨F, k1, k2, k3⟩ := ct_row (d := d) (a := 24) (v := 0) (by omega) h5 h6 (by omega) hpN h24.symm (fun q => by rw [h24] at q; omega)
      refine ⟨F, c, by rw [h5.2.1, k1]; rfl, k2, ?_, h7, by omega, k3⟩
      show rdK g N (rdP g N c) = 24
      rw [hpN, h24]
    intro m
    induction m with
    | zero =>
      intro c p k E h1 hk h2 h3 h4 h5 h6 h7
      obtain ⟨F, c', k1, k2⟩ := fin c p E (by omega) h2 h3 h4 h5 h6 h7
      refine ⟨F, c', ?_, k2⟩
      rw [← k1, xl_X9_cut_14]
      simp only [Bool.cond_decide]
      split
      · rfl
      · rw [if_pos (by omega)]
    | succ m ih =>
      intro c p k E h1 hk h2 h3 h4 h5 h6 h7
      by_cases hpN : N ≤ p
      · obtain ⟨F, c', k1, k2⟩ := fin c p E hpN h2 h3 h4 h5 h6 h7
        refine ⟨F, c', ?_, k2⟩
        rw [← k1, xl_X9_cut_14]
        simp only [Bool.cond_decide]
        split
        · rfl
        · rw [if_pos (by omega)]
      · have hTE := h5
        obtain ⟨t0, t1, -, t6, t7⟩ := h5
        have e0 : (E 26 0).toNat = 1 := by rw [t0]; rfl
        have hstart : xw_X9_cut d (14, [some kR, some (.inl (N : Int)), some (.inl (p : Int)), some (.inl (k : Int))], [], E) = if rdBlk (g p) = true then xw_X9_cut d (14, [some kR, some (.inl (N : Int)), some (.inl ((p + 1 : Nat) : Int)), some (.inl ((k + 1 : Nat) : Int))], [], E) else (xM d 85 [kR, .inl (p : Int)] E).bind fun q4 => xw_X9_cut d (14, [some kR, some (.inl (N : Int)), some (.inl q4.1), some (.inl ((k + 1 : Nat) : Int))], [], q4.2) := by
          rw [xl_X9_cut_14]
          simp only [Bool.cond_decide]
          rw [if_neg (by omega), if_neg (by omega), xixn (n := 1700) (show p < 1700 by omega), e0, Int.toNat_natCast, t7 p (by omega), ct_isBlank (by omega)]
          simp only [cond_true, Option.bind_some]
          rw [w32_s (by omega), w32_s (by omega)]
          by_cases hbl : rdBlk (g p) = true
          · rw [if_pos hbl, if_neg (by decide), if_pos hbl]
          · rw [if_neg hbl, if_pos rfl, if_neg hbl]
        rw [hstart]
        by_cases hbl : rdBlk (g p) = true
        · rw [if_pos hbl]
          exact ih c (p + 1) (k + 1) E (by omega) (by omega) (by omega) (by omega) (by rw [← h4]; exact (rdEnd_on (by omega) hbl).symm) hTE h6 h7
        · rw [if_neg hbl]
          have hpc : rdP g N c = p := by rw [← h4]; exact rdEnd_off (fun q => hbl q.2)
          obtain ⟨F1, k1, k2, k3⟩ := ct_cutOne (d := d) (by omega) hTE h6 (by omega) hpc (by omega)
          rw [k1]
          simp only [Option.bind_some]
          have hgt := rdE_gt (g := g) (N := N) (p := p) (by omega)
          have hle := rdE_le (g := g) (N := N) (p := p) (by omega)
          have hK : tkK g N c ≠ 24 := by
            show rdK g N (rdP g N c) ≠ 24
            rw [hpc]
            intro q
            have := rdK_24.mp q
            omega
          obtain ⟨F, c', j1, j2, j3, j4, j5, j6⟩ := ih (c + 1) (rdE g N p) (k + 1) F1 (by omega) (by omega) hle (by omega) (by rw [← hpc]; rfl) (cTx_same hTE k3) k2 (fun i hi => by
            by_cases hic : i = c
            · rw [hic]; exact hK
            · exact h7 i (by omega))
          exact ⟨F, c', j1, j2, j3, j4, j5, xSm_trans k3 j6⟩
  obtain ⟨F, c, k1, k2, k3, k4, k5, k6⟩ := key N 0 0 0 _ (by omega) (Nat.le_refl 0) (Nat.zero_le N) (Nat.le_refl 0) rfl hT hb (fun i hi => by omega)
  refine ⟨F, c, k1, k2, k3, k4, k5, fun i j h26 hS => ?_, ?_⟩
  · rw [k6 i j hS, xst_nn (fun q => h26 q.1), xst_nn (fun q => h26 q.1)]
  · refine ⟨?_, ?_, ?_⟩
    all_goals rw [k6 _ _ rfl, xst_nn (by omega), xst_nn (by omega)]
    · exact hr.1
    · exact hr.2.1
    · exact hr.2.2
end cCut
