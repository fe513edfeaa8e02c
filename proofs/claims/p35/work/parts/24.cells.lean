/-! Cells, locals and stack of the second machine; that an instruction of it which only takes and gives values is the real one's. -/
section yRel2
def yct : va_E → Nat → Option Value
  | .inl (_, len, .inl f), j => if j < len then some (.int (f j)) else none
  | .inl (_, len, .inr (.inl f)), j => if j < len then some (.long (f j)) else none
  | .inl _, _ => none
  | .inr (_, vs), j => vs[j]?
def yfk : va_E → Nat → Nat
  | .inl _, _ => 0
  | .inr _, j => j
def yRuOk (sz : Nat) (sr : List Nat) : yRu → Value → Prop
  | .inl q, w => ∃ x : Int32, w = .int x ∧ q.1 ≤ x.toInt ∧ x.toInt ≤ q.2
  | .inr (.inl _), w => ∃ x : Int64, w = .long x
  | .inr (.inr t), w => ∃ i : Nat, w = .ref (sz + i) ∧ sr[i]? = some t
def yArOk (ar : yAr) (j : Nat) (z : Int) : Prop := (ar.1 ≤ z ∧ z ≤ ar.2.1) ∧ (∀ q ∈ ar.2.2.1, j % q.1 = q.2.1 → q.2.2.1 ≤ z ∧ z ≤ q.2.2.2) ∧ (ar.2.2.2 = 1 → z % 16 = 1 → 0 ≤ z / 16 ∧ z / 16 ≤ 5) ∧ (ar.2.2.2 = 2 → j = 0 ∨ z + 1 ≤ j)
def yTy (sz : Nat) (sr : List Nat) (ca : Nat → ClassId) : yKd → va_E → Prop
  | (_, .inl (ci, rs)), e => ∃ vs, e = .inr (ci, vs) ∧ vs.length = rs.length ∧ (∃ r, vwCl[ci]? = some r ∧ vs.length = r.2.2) ∧ ∀ (k : Nat) (ru : yRu) (w : Value), rs[k]? = some ru → vs[k]? = some w → yRuOk sz sr ru w
  | (_, .inr (kd, len, ar)), e => (kd < 3 ∧ ∃ f : Nat → Int32, e = .inl (ca kd, len, .inl f) ∧ ∀ j, j < len → yArOk ar j (f j).toInt) ∨ (kd = 3 ∧ ∃ f : Nat → Int64, e = .inl (ca 3, len, .inr (.inl f)))
def yWd (sz : Nat) (sr : List Nat) (tt : List yKd) (ca : Nat → ClassId) (ws : va_W) : Prop := ws.length = sr.length ∧ ∀ (i : Nat) (q : Nat × va_E), ws[i]? = some q → q.1 = sz + i ∧ ∃ t kd, sr[i]? = some t ∧ zget tt t = some kd ∧ yTy sz sr ca kd q.2
/-- the cells of a kind are numbered as it says -/
def yKOk (sr : List Nat) (tt : List yKd) : Prop := ∀ (i t : Nat), sr[i]? = some t → ∃ kd, zget tt t = some kd ∧ kd.1.1 ≤ i ∧ i ≤ kd.1.2
/-- ghost facts have kinds of their own; what they read are arrays -/
def yOne : List Nat := [99, 70, 71, 72, 73, 66, 67, 68, 69, 81, 88, 74, 63, 1, 64, 53, 109]
def yT9 (sr : List Nat) : Prop := (∀ (i t : Nat), sr[i]? = some t → t < 900 ∧ (2 ≤ i → i ≤ 23 → yrk (i + 200) = t)) ∧ ∀ (i t : Nat), t ∈ yOne → sr[i]? = some t → sr.idxOf t = i
def yArK (tt : List yKd) : Prop := ∀ (t : Nat), ∀ r ∈ yrdI t, (yobj r.1 = false ∧ ∃ kd : (Nat × Nat) × (Nat × Nat × yAr), zget tt (yrk r.1) = some (kd.1, .inr kd.2)) ∨ (yobj r.1 = true ∧ 0 ≤ r.2.1 ∧ r.2.2.1 = 0 ∧ r.2.2.2.1 = 0 ∧ r.2.2.2.2 = r.2.1 + 1 ∧ ∃ kd : (Nat × Nat) × (Nat × List yRu), zget tt (yrk r.1) = some (kd.1, .inl kd.2))
def yMk (b sz : Nat) (sr : List Nat) (v : List Int) (ws : va_W) (q : (yE × Nat × yE) × yA) : Prop := ∃ (i j : Nat) (c : Nat × va_E) (w : Value), yev v q.1.1 = some (i : Int) ∧ sr[i]? = some q.1.2.1 ∧ yev v q.1.2.2 = some (j : Int) ∧ ws[i]? = some c ∧ yct c.2 j = some w ∧ yV b sz sr v q.2 w
/-- the cell that is read -/
def yiw (sr : List Nat) (t : Nat) : Nat := if 202 ≤ t ∧ t ≤ 223 then t - 200 else sr.idxOf t
theorem yiw_of {sr : List Nat} {t : Nat} (h : ¬ (202 ≤ t ∧ t ≤ 223)) : yiw sr t = sr.idxOf t := if_neg h
theorem yrk_of {t : Nat} (h : ¬ (202 ≤ t ∧ t ≤ 223)) : yrk t = t := by
  unfold yrk
  split
  · rename_i h1
    rw [Bool.and_eq_true] at h1
    exact absurd ⟨Nat.le_of_ble_eq_true h1.1, Nat.le_of_ble_eq_true h1.2⟩ h
  · rfl
theorem yiw_one {sr : List Nat} {t i : Nat} (h9 : yT9 sr) (ht : t ∈ yOne) (hsr : sr[i]? = some t) : yiw sr t = i := by
  have h0 : ∀ t ∈ yOne, ¬ (202 ≤ t ∧ t ≤ 223) := by decide
  rw [yiw_of (h0 t ht)]
  exact h9.2 i t ht hsr
theorem yiw_kd {sr : List Nat} {tk t i : Nat} (h9 : yT9 sr) (hsr : sr[i]? = some t) (h : yiw sr tk = i) : yrk tk = t := by
  by_cases hr : 202 ≤ tk ∧ tk ≤ 223
  · have h : tk - 200 = i := by rw [← h]; exact (if_pos hr).symm
    have := (h9.1 i t hsr).2 (by omega) (by omega)
    rw [show i + 200 = tk by omega] at this
    exact this
  · rw [yiw_of hr] at h
    rw [yrk_of hr]
    obtain ⟨hl, hge⟩ := List.getElem?_eq_some_iff.mp hsr
    subst h
    rw [← hge]
    exact (List.getElem_idxOf hl).symm
/-- what stands at a place of the (only) array of a kind -/
def yKo (sr : List Nat) (ws : va_W) (t j : Nat) : Int := match ws[yiw sr t]? with
  | some c => match yct c.2 j with
    | some (.int x) => x.toInt
    | _ => 0
  | none => 0
/-- what a ghost fact says -/
def yGh (t : Nat) (n lo hi : Int) (K : Nat → Nat → Int) : Prop :=
  if t = 920 then gDEP (K 99) n.toNat lo hi else if t = 921 then gOPEN (K 74) n lo hi else if t = 922 then gCU (K 66) (K 67) n lo hi else if t = 930 then gAG K
  else if t = 932 then gUWA K n else if t = 933 then gLW K n else if t = 940 then gRW K n lo hi else if t = 941 then gARG K lo hi else if t = 950 then gG K n lo hi
  else if t = 961 then gSame (K 70) (K 66) n else if t = 962 then gSame (K 71) (K 67) n else if t = 963 then gSame (K 72) (K 68) n else if t = 964 then gSame (K 73) (K 69) n else if t = 965 then gSame (K 88) (K 81) n
  else if t = 970 then gTXT (K 1) (K 64) n else if t = 972 then gOUT (K 1) n lo hi else if t = 973 then gWRD (K 1) n lo hi else if t = 974 then gOU3 (K 1) n hi else if t = 975 then gUP (K 53) (K 109) n lo else if t = 976 then gUN2 (K 109) n lo hi
  else if t = 977 then gLAND (kC K) n else if t = 978 then gFIT (kC K) n lo else if t = 979 then gLKS (kC K) n else if t = 980 then gDRF (kC K) n hi
  else if t = 981 then gRST (kC K) n lo hi else if t = 982 then gASK (kC K) n lo hi
  else t < 900
theorem gLW_keep {K K1 : Nat → Nat → Int} {w : Int} (k70 : ∀ j : Nat, (j : Int) < 2400 → K 70 j = K1 70 j) (k71 : ∀ j : Nat, (j : Int) < 2400 → K 71 j = K1 71 j) (k72 : ∀ j : Nat, (j : Int) < 65 → K 72 j = K1 72 j) (k73 : ∀ j : Nat, (j : Int) < 65 → K 73 j = K1 73 j) (h : gLW K w) : gLW K1 w := by
  obtain ⟨h0, h1, h2⟩ := h
  refine ⟨h0, h1, gLeg_keep (k72 _ (by omega)) (k73 _ (by omega)) id (fun j hj => ?_) h2⟩
  have := h2.2.2.2.1
  exact ⟨k70 j (by omega), k71 j (by omega)⟩
theorem gRW_keep {K K1 : Nat → Nat → Int} {n k w : Int} (k70 : ∀ j : Nat, (j : Int) < 2400 → K 70 j = K1 70 j) (k71 : ∀ j : Nat, (j : Int) < 2400 → K 71 j = K1 71 j) (k72 : ∀ j : Nat, (j : Int) < 65 → K 72 j = K1 72 j) (k73 : ∀ j : Nat, (j : Int) < 65 → K 73 j = K1 73 j) (h : gRW K n k w) : gRW K1 n k w := by
  obtain ⟨h0, h1, h2, h3, h4, h5, z, h6⟩ := h
  have e1 := k72 w.toNat (by omega)
  have e2 := k73 w.toNat (by omega)
  refine ⟨h0, h1, by rw [← e1]; exact h2, by rw [← e2]; exact h3, by rw [← e1, ← e2]; exact h4, h5, z, ?_⟩
  rw [← e1, ← e2, ← gRun_keep (s := K 70) (a := K 71) _ k.toNat n fun j g1 g2 => ⟨k70 j (by omega), k71 j (by omega)⟩]
  exact h6
theorem gAG_keep {K K1 : Nat → Nat → Int} (f0 : K 63 50 = K1 63 50) (f1 : K 63 51 = K1 63 51) (f2 : K 63 52 = K1 63 52) (f3 : K 63 53 = K1 63 53) (f4 : K 63 60 = K1 63 60) (f5 : K 63 61 = K1 63 61) (k88 : ∀ j : Nat, (j : Int) < 11 → K 88 j = K1 88 j) (k70 : ∀ j : Nat, (j : Int) < 2400 → K 70 j = K1 70 j) (k71 : ∀ j : Nat, (j : Int) < 2400 → K 71 j = K1 71 j) (k72 : ∀ j : Nat, (j : Int) < 65 → K 72 j = K1 72 j) (k73 : ∀ j : Nat, (j : Int) < 65 → K 73 j = K1 73 j) (h : gAG K) : gAG K1 := by
  intro f hf
  have hf : gUsA K1 f := hf
  unfold gUsA at hf
  rw [← f0, ← f1, ← f2, ← f3, ← f4, ← f5] at hf
  have hf := gUsed_keep (st1 := K 88) (fun w hw => (k88 w (by omega)).symm) hf
  have hlt := gUsed_lt hf
  have L := h f hf
  refine gLeg_keep (k72 f (by omega)) (k73 f (by omega)) id (fun j hj => ?_) L
  have := L.2.2.2.1
  exact ⟨k70 j (by omega), k71 j (by omega)⟩
theorem gLgN_keep {K K1 : Nat → Nat → Int} {f : Nat} (hf : f < 65) (top : K 63 23 ≤ K1 63 23) (k66 : ∀ j : Nat, (j : Int) < K 63 23 → (j : Int) < 2400 → K 66 j = K1 66 j) (k67 : ∀ j : Nat, (j : Int) < K 63 23 → (j : Int) < 2400 → K 67 j = K1 67 j) (k68 : K 68 f = K1 68 f) (k69 : K 69 f = K1 69 f) (L : gLgN K f) : gLgN K1 f := by
  refine gLeg_keep k68 k69 (fun h => by omega) (fun j hj => ?_) L
  have := L.2.2.2.1
  have := L.2.2.1
  exact ⟨k66 j (by omega) (by omega), k67 j (by omega) (by omega)⟩
theorem gG_keep {K K1 : Nat → Nat → Int} {b a c : Int} (f2 : K 63 2 = K1 63 2) (f23 : K 63 23 = K1 63 23) (f43 : K 63 43 = K1 63 43) (f44 : K 63 44 = K1 63 44) (f45 : K 63 45 = K1 63 45) (f46 : K 63 46 = K1 63 46) (f58 : K 63 58 = K1 63 58) (f59 : K 63 59 = K1 63 59) (k81 : ∀ j : Nat, (j : Int) < 11 → K 81 j = K1 81 j) (k66 : ∀ j : Nat, (j : Int) < 2400 → K 66 j = K1 66 j) (k67 : ∀ j : Nat, (j : Int) < 2400 → K 67 j = K1 67 j) (k68 : ∀ j : Nat, (j : Int) < 65 → K 68 j = K1 68 j) (k69 : ∀ j : Nat, (j : Int) < 65 → K 69 j = K1 69 j) (h : gG K b a c) : gG K1 b a c := by
  refine gG_mono (fun q => by rw [f2]; exact q) (fun f hf _ => ?_) (fun f hf _ L => gLgN_keep hf (by omega) (fun j _ hj => k66 j hj) (fun j _ hj => k67 j hj) (k68 f (by omega)) (k69 f (by omega)) L) h
  unfold gUsN at hf
  rw [← f43, ← f44, ← f45, ← f46, ← f58, ← f59] at hf
  exact gUsed_keep (fun w hw => (k81 w (by omega)).symm) hf
theorem gSame_keep {x y x1 y1 : Nat → Int} {n : Int} (hx : ∀ j : Nat, (j : Int) < n → x j = x1 j) (hy : ∀ j : Nat, (j : Int) < n → y j = y1 j) (h : gSame x y n) : gSame x1 y1 n := fun j hj => by rw [← hx j hj, ← hy j hj]; exact h j hj
theorem yGh_keep {t : Nat} {n lo hi : Int} {K K1 : Nat → Nat → Int} (h : yGh t n lo hi K) (hk : ∀ r ∈ yrdI t, ∀ j : Nat, r.2.1 ≤ (j : Int) → (j : Int) < r.2.2.1 * n + r.2.2.2.1 * hi + r.2.2.2.2 → K r.1 j = K1 r.1 j) : yGh t n lo hi K1 := by
  have row : ∀ (a : Nat) (c d : Int), (a, 0, c, d, 0) ∈ yrdI t → ∀ j : Nat, (j : Int) < c * n + d * hi → K a j = K1 a j := fun a c d h1 j h2 => hk _ h1 j (by show (0 : Int) ≤ j; omega) (by show (j : Int) < c * n + d * hi + 0; omega)
  have all : ∀ (a : Nat) (z : Int), (a, 0, 0, 0, z) ∈ yrdI t → ∀ j : Nat, (j : Int) < z → K a j = K1 a j := fun a z h1 j h2 => hk _ h1 j (by show (0 : Int) ≤ j; omega) (by show (j : Int) < 0 * n + 0 * hi + z; omega)
  have fld : ∀ (f : Nat), (63, (f : Int), 0, 0, (f : Int) + 1) ∈ yrdI t → K 63 f = K1 63 f := fun f h1 => hk _ h1 f (by show (f : Int) ≤ f; omega) (by show (f : Int) < 0 * n + 0 * hi + ((f : Int) + 1); omega)
  unfold yGh at *
  by_cases e : t = 920
  · subst e; exact gDEP_keep (fun j hj => row 99 0 1 (by decide) j (by omega)) h
  rw [if_neg e] at h ⊢; clear e
  by_cases e : t = 921
  · subst e; exact gOPEN_keep (fun j hj => row 74 0 1 (by decide) j (by omega)) h
  rw [if_neg e] at h ⊢; clear e
  by_cases e : t = 922
  · subst e; exact gCU_keep (fun j hj => ⟨row 66 0 1 (by decide) j (by omega), row 67 0 1 (by decide) j (by omega)⟩) h
  rw [if_neg e] at h ⊢; clear e
  by_cases e : t = 930
  · subst e; exact gAG_keep (fld 50 (by decide)) (fld 51 (by decide)) (fld 52 (by decide)) (fld 53 (by decide)) (fld 60 (by decide)) (fld 61 (by decide)) (all 88 11 (by decide)) (all 70 2400 (by decide)) (all 71 2400 (by decide)) (all 72 65 (by decide)) (all 73 65 (by decide)) h
  rw [if_neg e] at h ⊢; clear e
  by_cases e : t = 932
  · subst e
    have h : gUW (K 63 50) (K 63 51) n := h
    rw [fld 50 (by decide), fld 51 (by decide)] at h
    exact h
  rw [if_neg e] at h ⊢; clear e
  by_cases e : t = 933
  · subst e; exact gLW_keep (all 70 2400 (by decide)) (all 71 2400 (by decide)) (all 72 65 (by decide)) (all 73 65 (by decide)) h
  rw [if_neg e] at h ⊢; clear e
  by_cases e : t = 940
  · subst e; exact gRW_keep (all 70 2400 (by decide)) (all 71 2400 (by decide)) (all 72 65 (by decide)) (all 73 65 (by decide)) h
  rw [if_neg e] at h ⊢; clear e
  by_cases e : t = 941
  · subst e
    intro j h1 h2
    rw [← row 71 0 1 (by decide) j (by omega)]
    exact h j h1 h2
  rw [if_neg e] at h ⊢; clear e
  by_cases e : t = 950
  · subst e; exact gG_keep (fld 2 (by decide)) (fld 23 (by decide)) (fld 43 (by decide)) (fld 44 (by decide)) (fld 45 (by decide)) (fld 46 (by decide)) (fld 58 (by decide)) (fld 59 (by decide)) (all 81 11 (by decide)) (all 66 2400 (by decide)) (all 67 2400 (by decide)) (all 68 65 (by decide)) (all 69 65 (by decide)) h
  rw [if_neg e] at h ⊢; clear e
  by_cases e : t = 961
  · subst e; exact gSame_keep (fun j hj => row 70 1 0 (by decide) j (by omega)) (fun j hj => row 66 1 0 (by decide) j (by omega)) h
  rw [if_neg e] at h ⊢; clear e
  by_cases e : t = 962
  · subst e; exact gSame_keep (fun j hj => row 71 1 0 (by decide) j (by omega)) (fun j hj => row 67 1 0 (by decide) j (by omega)) h
  rw [if_neg e] at h ⊢; clear e
  by_cases e : t = 963
  · subst e; exact gSame_keep (fun j hj => row 72 1 0 (by decide) j (by omega)) (fun j hj => row 68 1 0 (by decide) j (by omega)) h
  rw [if_neg e] at h ⊢; clear e
  by_cases e : t = 964
  · subst e; exact gSame_keep (fun j hj => row 73 1 0 (by decide) j (by omega)) (fun j hj => row 69 1 0 (by decide) j (by omega)) h
  rw [if_neg e] at h ⊢; clear e
  by_cases e : t = 965
  · subst e; exact gSame_keep (fun j hj => row 88 1 0 (by decide) j (by omega)) (fun j hj => row 81 1 0 (by decide) j (by omega)) h
  rw [if_neg e] at h ⊢; clear e
  by_cases e : t = 970
  · subst e; exact gTXT_keep (fun j hj => row 1 1 0 (by decide) j (by omega)) (fun j hj => row 64 1 0 (by decide) j (by omega)) h
  rw [if_neg e] at h ⊢; clear e
  by_cases e : t = 972
  · subst e; exact gOUT_keep (fun j hj => row 1 0 1 (by decide) j (by omega)) h
  rw [if_neg e] at h ⊢; clear e
  by_cases e : t = 973
  · subst e; exact gWRD_keep (fun j hj => row 1 0 1 (by decide) j (by omega)) h
  rw [if_neg e] at h ⊢; clear e
  by_cases e : t = 974
  · subst e; exact gOU3_keep (fun j hj => row 1 0 1 (by decide) j (by omega)) h
  rw [if_neg e] at h ⊢; clear e
  by_cases e : t = 975
  · subst e; exact gUP_keep (all 53 20 (by decide)) (all 109 20 (by decide)) h
  rw [if_neg e] at h ⊢; clear e
  by_cases e : t = 976
  · subst e; exact gUN2_keep (all 109 20 (by decide)) h
  rw [if_neg e] at h ⊢; clear e
  have arr : ∀ l : List (Nat × Nat), (∀ q ∈ l, (q.1, (0 : Int), (0 : Int), (0 : Int), (q.2 : Int)) ∈ yrdI t) → ∀ q ∈ l, ∀ j, j < q.2 → K q.1 j = K1 q.1 j := fun l hl q hq j hj => hk _ (hl q hq) j (by show (0 : Int) ≤ j; omega) (by show (j : Int) < 0 * n + 0 * hi + (q.2 : Int); omega)
  have fls : ∀ l : List (Nat × Nat), (∀ q ∈ l, (q.1, (q.2 : Int), (0 : Int), (0 : Int), (q.2 : Int) + 1) ∈ yrdI t) → ∀ q ∈ l, K q.1 q.2 = K1 q.1 q.2 := fun l hl q hq => hk _ (hl q hq) q.2 (by show (q.2 : Int) ≤ q.2; omega) (by show (q.2 : Int) < 0 * n + 0 * hi + ((q.2 : Int) + 1); omega)
  by_cases e : t = 977
  · subst e; exact gLAND_keep (cSm_of (arr kLs (by decide +kernel)) (fls kFl (by decide +kernel))) (rSm_of (arr kRs (by decide +kernel)) (fls kRf (by decide +kernel))) (fld 49 (by decide)) h
  rw [if_neg e] at h ⊢; clear e
  by_cases e : t = 978
  · subst e; exact gFIT_keep (rSm_of (arr kRs (by decide +kernel)) (fls kRf (by decide +kernel))) (fld 98 (by decide)) (kKs_of (arr kKs (by decide +kernel))) h
  rw [if_neg e] at h ⊢; clear e
  by_cases e : t = 979
  · subst e
    refine gLKS_keep (fun i hi1 j hj => ?_) (fld 49 (by decide)) h
    rcases hi1 with rfl | rfl | rfl | rfl | rfl | rfl | rfl | rfl
    · exact row 49 1 0 (by decide) j (by omega)
    · exact row 50 1 0 (by decide) j (by omega)
    · exact row 51 1 0 (by decide) j (by omega)
    · exact row 52 1 0 (by decide) j (by omega)
    · exact row 105 1 0 (by decide) j (by omega)
    · exact row 106 1 0 (by decide) j (by omega)
    · exact row 107 1 0 (by decide) j (by omega)
    · exact row 108 1 0 (by decide) j (by omega)
  rw [if_neg e] at h ⊢; clear e
  by_cases e : t = 980
  · subst e; exact gDRF_keep (cSm_of (arr kLs (by decide +kernel)) (fls kFl (by decide +kernel))) (fun j hj => row 1 0 1 (by decide) j (by omega)) h
  rw [if_neg e] at h ⊢; clear e
  by_cases e : t = 981
  · subst e; exact gANS_keep (rSm_of (arr kRs (by decide +kernel)) (fls kRf (by decide +kernel))) (fld 49 (by decide)) (fld 98 (by decide)) (kKs_of (arr kKs (by decide +kernel))) h
  rw [if_neg e] at h ⊢; clear e
  by_cases e : t = 982
  · subst e
    obtain ⟨x, w, h1, h2, h3⟩ := h
    exact ⟨x, w, h1, h2, gANS_keep (rSm_of (arr kRs (by decide +kernel)) (fls kRf (by decide +kernel))) (fld 49 (by decide)) (fld 98 (by decide)) (kKs_of (arr kKs (by decide +kernel))) h3⟩
  rw [if_neg e] at h ⊢
  exact h
theorem yGh_low {t : Nat} {n lo hi : Int} {K : Nat → Nat → Int} (h : t ≤ 899) : yGh t n lo hi K := by
  unfold yGh
  rw [if_neg (by omega), if_neg (by omega), if_neg (by omega), if_neg (by omega), if_neg (by omega), if_neg (by omega), if_neg (by omega), if_neg (by omega), if_neg (by omega), if_neg (by omega), if_neg (by omega), if_neg (by omega), if_neg (by omega), if_neg (by omega), if_neg (by omega), if_neg (by omega), if_neg (by omega), if_neg (by omega), if_neg (by omega), if_neg (by omega), if_neg (by omega), if_neg (by omega), if_neg (by omega), if_neg (by omega), if_neg (by omega), if_neg (by omega)]
  omega
def yPk (sr : List Nat) (v : List Int) (ws : va_W) (q : (yE × Nat) × yE × yE × yE) : Prop := ∃ (i n lo hi : Int), yev v q.1.1 = some i ∧ yev v q.2.1 = some n ∧ yev v q.2.2.1 = some lo ∧ yev v q.2.2.2 = some hi ∧ (∀ (i' : Nat) (c : Nat × va_E), i = (i' : Int) → sr[i']? = some q.1.2 → ws[i']? = some c → ∀ (j : Nat) (x : Int32), (j : Int) < n → yct c.2 j = some (.int x) → lo ≤ x.toInt ∧ x.toInt ≤ hi) ∧ yGh q.1.2 n lo hi (yKo sr ws)
def yFr (sr : List Nat) (ms : Option (List (Nat × Nat))) (ws0 ws : va_W) : Prop := ∀ (i t j : Nat) (q0 q : Nat × va_E), ws0[i]? = some q0 → ws[i]? = some q → sr[i]? = some t → ymo ms t (yfk q.2 j) = false → yct q.2 j = yct q0.2 j
def yHp (b sz : Nat) (sr : List Nat) (tt : List yKd) (D : va_G) (ca : Nat → ClassId) (s : State) (ms : Option (List (Nat × Nat))) (ws0 : va_W) (v : List Int) (MP : yM × yP) (H : Heap) (locs : List Loc) : Prop :=
  ∃ ws, yWd sz sr tt ca ws ∧ va_P D vwCl ws H ∧ va_D (zA sz) ws ∧ va_S (zA sz) s.heap H locs ∧ (∀ q ∈ MP.1, yMk b sz sr v ws q) ∧ (∀ q ∈ MP.2, yPk sr v ws q) ∧ yFr sr ms ws0 ws
def yLR (b sz : Nat) (sr : List Nat) (v : List Int) (ls : Array Slot) (nL : Nat) (L : List (Option yA)) : Prop :=
  L.length = nL ∧ ∃ lv, lv_has ls nL lv ∧ ∀ (i : Nat) (a : yA), zget L i = some (some a) → ∃ w, yV b sz sr v a w ∧ (i, w) ∈ lv
def ySR (b sz : Nat) (sr : List Nat) (v : List Int) : List yA → List Value → Prop
  | [], [] => True
  | a :: S, w :: st => yV b sz sr v a w ∧ ySR b sz sr v S st
  | _, _ => False
def yJat (p : Program) (l : Launch) (e : Env) (R : Room) (s : State) (m : MethodId) (args : Array Value) (below : List Frame) (meth : Method) (c : Code) (Q : State → Prop) (b sz : Nat) (sr : List Nat) (tt : List yKd) (D : va_G) (ca : Nat → ClassId) (ms : Option (List (Nat × Nat))) (ws0 : va_W) (nL K0 S0 : Nat) (v : List Int) (cf : yCfg) : Prop :=
  ∀ (H : Heap) (ls : Array Slot) (st : List Value) (locs : List Loc), yRS v cf.2.2.2 → yHp b sz sr tt D ca s ms ws0 v cf.2.2.2.2.2.2.2 H locs → yLR b sz sr v ls nL cf.2.1 → ySR b sz sr v cf.2.2.1 st → W p l e R s m args below meth c H locs K0 S0 Q (F0 m cf.1 ls st)
def yJ (p : Program) (l : Launch) (e : Env) (R : Room) (s : State) (m : MethodId) (args : Array Value) (below : List Frame) (meth : Method) (c : Code) (Q : State → Prop) (b sz : Nat) (sr : List Nat) (tt : List yKd) (D : va_G) (ca : Nat → ClassId) (ms : Option (List (Nat × Nat))) (ws0 : va_W) (nL K0 S0 : Nat) (v : List Int) (cf : yCfg) : Prop := ∀ u : List Int, yJat p l e R s m args below meth c Q b sz sr tt D ca ms ws0 nL K0 S0 (v ++ u) cf
variable {p : Program} {l : Launch} {e : Env} {R : Room} {s : State} {m : MethodId} {args : Array Value} {below : List Frame} {meth : Method} {c : Code} {Q : State → Prop}
variable {b sz nL K0 S0 : Nat} {sr : List Nat} {tt : List yKd} {D : va_G} {ca : Nat → ClassId} {ms : Option (List (Nat × Nat))} {ws0 ws : va_W} {cc : ByteArray}
variable {v u : List Int} {pc : Nat} {L : List (Option yA)} {S : List yA} {st : yS} {k : yCfg → Bool} {MP : yM × yP} {H : Heap} {locs : List Loc} {ls : Array Slot} {stk : List Value}
theorem yJ_ext {cf : yCfg} (h : yJ p l e R s m args below meth c Q b sz sr tt D ca ms ws0 nL K0 S0 v cf) (u : List Int) : yJ p l e R s m args below meth c Q b sz sr tt D ca ms ws0 nL K0 S0 (v ++ u) cf := fun w => by rw [List.append_assoc]; exact h (u ++ w)
theorem yJ_at {cf : yCfg} (h : yJ p l e R s m args below meth c Q b sz sr tt D ca ms ws0 nL K0 S0 v cf) : yJat p l e R s m args below meth c Q b sz sr tt D ca ms ws0 nL K0 S0 v cf := by have := h []; rwa [List.append_nil] at this
theorem yMk_mono {q : (yE × Nat × yE) × yA} (h : yMk b sz sr v ws q) : yMk b sz sr (v ++ u) ws q := by
  obtain ⟨i, j, c, w, h1, h2, h3, h4, h5, h6⟩ := h
  exact ⟨i, j, c, w, yev_mono h1, h2, yev_mono h3, h4, h5, yV_mono h6⟩
theorem yPk_mono {q : (yE × Nat) × yE × yE × yE} (h : yPk sr v ws q) : yPk sr (v ++ u) ws q := by
  obtain ⟨i, n, lo, hi, h1, h4, h5, h6, h7⟩ := h
  exact ⟨i, n, lo, hi, yev_mono h1, yev_mono h4, yev_mono h5, yev_mono h6, h7⟩
theorem yHp_mono (h : yHp b sz sr tt D ca s ms ws0 v MP H locs) : yHp b sz sr tt D ca s ms ws0 (v ++ u) MP H locs := by
  obtain ⟨ws, h1, h2, h3, h4, h5, h6, h7⟩ := h
  exact ⟨ws, h1, h2, h3, h4, fun q hq => yMk_mono (h5 q hq), fun q hq => yPk_mono (h6 q hq), h7⟩
theorem yLR_mono (h : yLR b sz sr v ls nL L) : yLR b sz sr (v ++ u) ls nL L := by
  obtain ⟨h1, lv, h2, h3⟩ := h
  refine ⟨h1, lv, h2, fun i a hi => ?_⟩
  obtain ⟨w, g1, g2⟩ := h3 i a hi
  exact ⟨w, yV_mono g1, g2⟩
theorem ySR_mono (h : ySR b sz sr v S stk) : ySR b sz sr (v ++ u) S stk := by
  induction S generalizing stk with
  | nil => cases stk with
    | nil => trivial
    | cons w t => exact h.elim
  | cons a S ih => cases stk with
    | nil => exact h.elim
    | cons w t => exact ⟨yV_mono h.1, ih h.2⟩
theorem ySR_cons {a : yA} (h : ySR b sz sr v (a :: S) stk) : ∃ w st1, stk = w :: st1 ∧ yV b sz sr v a w ∧ ySR b sz sr v S st1 := by
  cases stk with
  | nil => exact h.elim
  | cons w t => exact ⟨w, t, rfl, h.1, h.2⟩
theorem ySR_nil (h : ySR b sz sr v [] stk) : stk = [] := by
  cases stk with
  | nil => rfl
  | cons w t => exact h.elim
theorem yV_cat {a : yA} {w : Value} (h : yV b sz sr v a w) : w.category = ycat a := by
  rcases a with e | e | ⟨e, t⟩ | e | x
  · obtain ⟨x, rfl, -⟩ := h; rfl
  · obtain ⟨x, rfl, -⟩ := h; rfl
  · obtain ⟨i, rfl, -⟩ := h; rfl
  · obtain ⟨x, z, rfl, -⟩ := h; rfl
  · have h : w = .ref b := h
    rw [h]; rfl
theorem ySR_sum (h : ySR b sz sr v S stk) : (stk.map fun w => w.category).sum = ysum S := by
  induction S generalizing stk with
  | nil => rw [ySR_nil h]; rfl
  | cons a S ih =>
    obtain ⟨w, t, rfl, h1, h2⟩ := ySR_cons h
    simp only [List.map_cons, List.sum_cons, ysum, ih h2, yV_cat h1]
theorem ygo_k {pc1 : Nat} {S1 : List yA} {st1 : yS} (h : ygo pc1 L S1 st1 k = true) : k (pc1, L, S1, st1) = true := by
  unfold ygo at h
  rwa [zst_eq] at h
/-- on, with what is given on the stack -/
theorem yon {pc1 : Nat} {r : List yA} {w : Value} (hk : ∀ cf, k cf = true → yJ p l e R s m args below meth c Q b sz sr tt D ca ms ws0 nL K0 S0 v cf) (hG : yG b sz sr v st (fun a st => ygo pc1 L (a :: r) st k) w) (hH : yHp b sz sr tt D ca s ms ws0 v st.2.2.2.2 H locs) (hL : yLR b sz sr v ls nL L) (hS : ySR b sz sr v r stk) : W p l e R s m args below meth c H locs K0 S0 Q (F0 m pc1 ls (w :: stk)) := by
  obtain ⟨a, u, st1, h1, h2, h3, h4⟩ := hG
  refine hk _ (ygo_k h1) u H ls _ locs h2 ?_ (yLR_mono hL) ⟨h3, ySR_mono hS⟩
  show yHp b sz sr tt D ca s ms ws0 (v ++ u) st1.2.2.2.2 H locs
  rw [h4]
  exact yHp_mono hH
theorem yonS {pc1 : Nat} {r : List yA} (hk : ∀ cf, k cf = true → yJ p l e R s m args below meth c Q b sz sr tt D ca ms ws0 nL K0 S0 v cf) (hG : yGs v st (fun st => ygo pc1 L r st k)) (hH : yHp b sz sr tt D ca s ms ws0 v st.2.2.2.2 H locs) (hL : yLR b sz sr v ls nL L) (hS : ySR b sz sr v r stk) : W p l e R s m args below meth c H locs K0 S0 Q (F0 m pc1 ls stk) := by
  obtain ⟨u, st1, h1, h2, h4⟩ := hG
  refine hk _ (ygo_k h1) u H ls _ locs h2 ?_ (yLR_mono hL) (ySR_mono hS)
  show yHp b sz sr tt D ca s ms ws0 (v ++ u) st1.2.2.2.2 H locs
  rw [h4]
  exact yHp_mono hH
theorem yon0 {pc1 : Nat} {r : List yA} (hk : ∀ cf, k cf = true → yJ p l e R s m args below meth c Q b sz sr tt D ca ms ws0 nL K0 S0 v cf) (h : ygo pc1 L r st k = true) (hR : yRS v st) (hH : yHp b sz sr tt D ca s ms ws0 v st.2.2.2.2 H locs) (hL : yLR b sz sr v ls nL L) (hS : ySR b sz sr v r stk) : W p l e R s m args below meth c H locs K0 S0 Q (F0 m pc1 ls stk) :=
  yJ_at (hk _ (ygo_k h)) H ls stk locs hR hH hL hS
theorem ys_push {len : Nat} {a : yA} {w : Value} (h : ypush len a pc L S st k = true) (hk : ∀ cf, k cf = true → yJ p l e R s m args below meth c Q b sz sr tt D ca ms ws0 nL K0 S0 v cf) (hv : yV b sz sr v a w)
    (row : ∀ (H : Heap) (ls : Array Slot) (stk : List Value) (locs : List Loc), W p l e R s m args below meth c H locs K0 S0 Q (F0 m (pc + len) ls (w :: stk)) → W p l e R s m args below meth c H locs K0 S0 Q (F0 m pc ls stk)) : yJat p l e R s m args below meth c Q b sz sr tt D ca ms ws0 nL K0 S0 v (pc, L, S, st) :=
  fun H ls stk locs hR hH hL hS => row H ls stk locs (yon0 hk h hR hH hL ⟨hv, hS⟩)
theorem ys_load {ok : yA → Bool} {len a : Nat} (h : yx_load ok len a pc L S st k = true) (hk : ∀ cf, k cf = true → yJ p l e R s m args below meth c Q b sz sr tt D ca ms ws0 nL K0 S0 v cf)
    (row : ∀ (H : Heap) (ls : Array Slot) (stk : List Value) (locs : List Loc) (x : yA) (w : Value), ok x = true → yV b sz sr v x w → ls[a]? = some (.val w) → W p l e R s m args below meth c H locs K0 S0 Q (F0 m (pc + len) ls (w :: stk)) → W p l e R s m args below meth c H locs K0 S0 Q (F0 m pc ls stk)) : yJat p l e R s m args below meth c Q b sz sr tt D ca ms ws0 nL K0 S0 v (pc, L, S, st) := by
  unfold yx_load at h
  split at h
  · rename_i x hg
    rw [Bool.and_eq_true] at h
    intro H ls stk locs hR hH hL hS
    obtain ⟨hlen, lv, hlv, hall⟩ := hL
    have hlen : L.length = nL := hlen
    obtain ⟨w, hw, hm⟩ := hall a x hg
    exact row H ls stk locs x w h.1 hw (hlv.2.2 (a, w) hm) (yon0 hk h.2 hR hH ⟨hlen, lv, hlv, hall⟩ ⟨hw, hS⟩)
  · cases h
theorem yseL_k {a : Nat} {x : Option yA} {kk : List (Option yA) → Bool} (h : yseL L a x kk = true) : a < L.length ∧ kk (L.set a x) = true := by
  unfold yseL at h
  split at h
  · rename_i r hr
    obtain ⟨h1, h2⟩ := zset_some hr
    subst h
    exact ⟨h1, Option.some.inj h2⟩
  · cases h
/-- the locals behind a store of one slot -/
theorem yLR_put {ls' : Array Slot} {a : Nat} {x : yA} {w : Value} {lv : List (Nat × Value)} (hlen : L.length = nL) (hall : ∀ (i : Nat) (y : yA), zget L i = some (some y) → ∃ w, yV b sz sr v y w ∧ (i, w) ∈ lv) (hh : yhalf L a = false) (ha : a < L.length) (hv : yV b sz sr v x w)
    (h' : lv_has ls' nL ((a, w) :: lv.filter (fun q => !(q.1 == a) && !(q.1 + 1 == a && q.2.category == 2)))) : yLR b sz sr v ls' nL (L.set a (some x)) := by
  refine ⟨by simp [hlen], _, h', fun i y hi => ?_⟩
  rw [zget_eq] at hi
  by_cases hia : i = a
  · subst hia
    rw [List.getElem?_set_self ha] at hi
    cases hi
    exact ⟨w, hv, List.mem_cons_self⟩
  · rw [List.getElem?_set_ne (Ne.symm hia)] at hi
    obtain ⟨z, hz, hm⟩ := hall i y (by rw [zget_eq]; exact hi)
    refine ⟨z, hz, List.mem_cons_of_mem _ (List.mem_filter.mpr ⟨hm, ?_⟩)⟩
    have h1 : (i == a) = false := by simpa using hia
    by_cases h2 : i + 1 = a
    · subst h2
      have h4 : (z.category == 2) = false := by
        rw [yV_cat hz]
        simp only [yhalf] at hh
        rw [zget_eq, hi] at hh
        rcases y with y | y | y <;> first | rfl | (simp at hh)
      simp [h1, h4]
    · have h3 : (i + 1 == a) = false := by simpa using h2
      simp [h1, h3]
theorem ys_store {ok : yA → Bool} {len a : Nat} (h : yx_store ok len a pc L S st k = true) (hk : ∀ cf, k cf = true → yJ p l e R s m args below meth c Q b sz sr tt D ca ms ws0 nL K0 S0 v cf)
    (row : ∀ (H : Heap) (ls : Array Slot) (stk : List Value) (locs : List Loc) (x : yA) (w : Value) (lv : List (Nat × Value)), ok x = true → yV b sz sr v x w → lv_has ls nL lv → a < nL → (∀ ls' : Array Slot, lv_has ls' nL ((a, w) :: lv.filter (fun q => !(q.1 == a) && !(q.1 + 1 == a && q.2.category == 2))) → W p l e R s m args below meth c H locs K0 S0 Q (F0 m (pc + len) ls' stk)) → W p l e R s m args below meth c H locs K0 S0 Q (F0 m pc ls (w :: stk))) : yJat p l e R s m args below meth c Q b sz sr tt D ca ms ws0 nL K0 S0 v (pc, L, S, st) := by
  unfold yx_store at h
  split at h
  · rename_i x r0
    simp only [Bool.and_eq_true, Bool.not_eq_true'] at h
    obtain ⟨h1, h2, h3⟩ := h
    obtain ⟨ha, h4⟩ := yseL_k h3
    intro H ls stk locs hR hH hL hS
    obtain ⟨hlen, lv, hlv, hall⟩ := hL
    have hlen : L.length = nL := hlen
    obtain ⟨w, st1, rfl, hw, hS1⟩ := ySR_cons hS
    exact row H ls st1 locs x w lv h1 hw hlv (by omega) fun ls' h' => yon0 hk h4 hR hH (yLR_put hlen hall h2 ha hw h') hS1
  · cases h
theorem ys_lstore {len a : Nat} (h : yx_lstore len a pc L S st k = true) (hk : ∀ cf, k cf = true → yJ p l e R s m args below meth c Q b sz sr tt D ca ms ws0 nL K0 S0 v cf)
    (row : ∀ (H : Heap) (ls : Array Slot) (stk : List Value) (locs : List Loc) (x : Int64) (lv : List (Nat × Value)), lv_has ls nL lv → a + 1 < nL → (∀ ls' : Array Slot, lv_has ls' nL ((a, .long x) :: lv.filter (fun q => !(q.1 == a) && (!(q.1 == a + 1) && !(q.1 + 1 == a && q.2.category == 2)))) → W p l e R s m args below meth c H locs K0 S0 Q (F0 m (pc + len) ls' stk)) → W p l e R s m args below meth c H locs K0 S0 Q (F0 m pc ls (.long x :: stk))) : yJat p l e R s m args below meth c Q b sz sr tt D ca ms ws0 nL K0 S0 v (pc, L, S, st) := by
  unfold yx_lstore at h
  split at h
  · rename_i x r0
    simp only [Bool.and_eq_true, Bool.not_eq_true'] at h
    obtain ⟨h1, h2, h3⟩ := h
    obtain ⟨ha, h4⟩ := yseL_k h3
    obtain ⟨ha1, h5⟩ := yseL_k h4
    intro H ls stk locs hR hH hL hS
    obtain ⟨hlen, lv, hlv, hall⟩ := hL
    have hlen : L.length = nL := hlen
    obtain ⟨w, st1, rfl, hw, hS1⟩ := ySR_cons hS
    rcases x with x | x | x
    · cases h1
    · obtain ⟨z, rfl, hz⟩ := hw
      refine row H ls st1 locs z lv hlv (by simp at ha1; omega) fun ls' h' => yon0 hk h5 hR hH ⟨by simp [hlen], _, h', fun i y hi => ?_⟩ hS1
      rw [zget_eq] at hi
      by_cases hi1 : i = a + 1
      · subst hi1
        rw [List.getElem?_set_self (by simpa using ha1)] at hi
        cases hi
      · rw [List.getElem?_set_ne (Ne.symm hi1)] at hi
        by_cases hia : i = a
        · subst hia
          rw [List.getElem?_set_self ha] at hi
          cases hi
          exact ⟨_, ⟨z, rfl, hz⟩, List.mem_cons_self⟩
        · rw [List.getElem?_set_ne (Ne.symm hia)] at hi
          obtain ⟨w, hw, hm⟩ := hall i y (by rw [zget_eq]; exact hi)
          refine ⟨w, hw, List.mem_cons_of_mem _ (List.mem_filter.mpr ⟨hm, ?_⟩)⟩
          have h1 : (i == a) = false := by simpa using hia
          have h0 : (i == a + 1) = false := by simpa using hi1
          by_cases h2' : i + 1 = a
          · subst h2'
            have h4 : (w.category == 2) = false := by
              rw [yV_cat hw]
              simp only [yhalf] at h2
              rw [zget_eq, hi] at h2
              rcases y with y | y | y <;> first | rfl | (simp at h2)
            simp [h1, h0, h4]
          · have h3 : (i + 1 == a) = false := by simpa using h2'
            simp [h1, h0, h3]
    · cases h1
  · cases h
theorem yisI_ok {x : yA} {w : Value} (h : yisI x = true) (hv : yV b sz sr v x w) : ∃ z : Int32, w = .int z := by
  rcases x with e | x
  · obtain ⟨z, h1, -⟩ := hv; exact ⟨z, h1⟩
  · cases h
theorem yisJ_ok {x : yA} {w : Value} (h : yisJ x = true) (hv : yV b sz sr v x w) : ∃ z : Int64, w = .long z := by
  rcases x with e | e | x
  · cases h
  · obtain ⟨z, h1, -⟩ := hv; exact ⟨z, h1⟩
  · cases h
theorem yisR_ok {x : yA} {w : Value} (h : yisR x = true) (hv : yV b sz sr v x w) : ∃ z : Nat, w = .ref z := by
  rcases x with e | e | ⟨e, t⟩ | e | x
  · cases h
  · cases h
  · obtain ⟨i, h1, -⟩ := hv; exact ⟨_, h1⟩
  · cases h
  · exact ⟨b, hv⟩
theorem ys_iinc {a b0 : Nat} (h : yx_iinc a b0 pc L S st k = true) (hk : ∀ cf, k cf = true → yJ p l e R s m args below meth c Q b sz sr tt D ca ms ws0 nL K0 S0 v cf)
    (row : ∀ (H : Heap) (ls : Array Slot) (stk : List Value) (locs : List Loc) (y : Int32) (lv : List (Nat × Value)) (j : Nat), lv_has ls nL lv → lv[j]? = some (a, .int y) → a < nL → (∀ ls' : Array Slot, lv_has ls' nL ((a, .int (y + Int32.ofNat b0)) :: lv.filter (fun q => !(q.1 == a) && !(q.1 + 1 == a && q.2.category == 2))) → W p l e R s m args below meth c H locs K0 S0 Q (F0 m (pc + 3) ls' stk)) → W p l e R s m args below meth c H locs K0 S0 Q (F0 m pc ls stk)) : yJat p l e R s m args below meth c Q b sz sr tt D ca ms ws0 nL K0 S0 v (pc, L, S, st) := by
  unfold yx_iinc at h
  split at h
  · rename_i x hg
    simp only [Bool.and_eq_true, Bool.not_eq_true'] at h
    obtain ⟨hh, h⟩ := h
    intro H ls stk locs hR hH hL hS
    obtain ⟨hlen, lv, hlv, hall⟩ := hL
    have hlen : L.length = nL := hlen
    obtain ⟨w, hw, hm⟩ := hall a _ hg
    obtain ⟨y, rfl, hy⟩ := hw
    obtain ⟨j, hj⟩ := List.getElem?_of_mem hm
    obtain ⟨x1, u, st1, g1, g2, g3, g4⟩ := yri_ok (b := b) (sz := sz) (sr := sr) (x := y + Int32.ofNat b0) h hR (yoff_ok hy) (y_add _ _)
    obtain ⟨ha, g1⟩ := yseL_k g1
    refine row H ls stk locs y lv j hlv hj (by omega) fun ls' h' => ?_
    have hL' := yLR_put (v := v ++ u) hlen (fun i y hi => by obtain ⟨w, q1, q2⟩ := hall i y hi; exact ⟨w, yV_mono q1, q2⟩) hh ha g3 h'
    have key := hk _ (ygo_k g1) u H ls' stk locs g2 (by show yHp b sz sr tt D ca s ms ws0 (v ++ u) st1.2.2.2.2 H locs; rw [g4]; exact yHp_mono hH) hL' (ySR_mono hS)
    exact key
  · cases h
end yRel2
