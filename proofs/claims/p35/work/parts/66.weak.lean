/-! The kinds of cells with no bounds but those of their sorts; what holds with bounds holds without. -/
noncomputable section
def xwk1 (x y : yRu) : Bool := match x with
  | .inl q => (match y with
    | .inl q' => ile q'.1 q.1 && ile q.2 q'.2
    | _ => false)
  | .inr (.inl _) => (match y with
    | .inr (.inl _) => true
    | _ => false)
  | .inr (.inr t) => (match y with
    | .inr (.inr t') => Nat.beq t t'
    | _ => false)
def xwkL : List yRu → List yRu → Bool
  | [], [] => true
  | x :: a, y :: b => xwk1 x y && xwkL a b
  | _, _ => false
def xwk (x y : yKd) : Bool := match x with
  | (_, .inl (ci, rs)) => (match y with
    | (_, .inl (ci', rs')) => Nat.beq ci ci' && xwkL rs rs'
    | _ => false)
  | (_, .inr (kd, len, ar)) => (match y with
    | (_, .inr (kd', len', ar')) => Nat.beq kd kd' && (Nat.beq len len' && (ile ar'.1 ar.1 && (ile ar.2.1 ar'.2.1 && ((match ar'.2.2.1 with
      | [] => true
      | _ :: _ => false) && Nat.beq ar'.2.2.2 0))))
    | _ => false)
def xwkT : List yKd → List yKd → Bool
  | [], [] => true
  | x :: a, y :: b => xwk x y && xwkT a b
  | _, _ => false
end
section xWeak
variable {sz : Nat} {sr : List Nat} {ca : Nat → ClassId} {ws : va_W}
theorem xwk1_ok {x y : yRu} {w : Value} (h : xwk1 x y = true) (hw : yRuOk sz sr x w) : yRuOk sz sr y w := by
  unfold xwk1 at h
  split at h
  · split at h
    · rw [Bool.and_eq_true, ile_iff, ile_iff] at h
      obtain ⟨z, rfl, h1, h2⟩ := hw
      exact ⟨z, rfl, by omega, by omega⟩
    · cases h
  · split at h
    · exact hw
    · cases h
  · split at h
    · rw [← Nat.eq_of_beq_eq_true h]
      exact hw
    · cases h
theorem xwkL_ok : ∀ {a b : List yRu}, xwkL a b = true → a.length = b.length ∧ ∀ (k : Nat) (y : yRu), b[k]? = some y → ∃ x, a[k]? = some x ∧ xwk1 x y = true := by
  intro a
  induction a with
  | nil =>
    intro b h
    cases b with
    | nil => exact ⟨rfl, fun k y hy => by simp at hy⟩
    | cons y b => cases h
  | cons x a ih =>
    intro b h
    cases b with
    | nil => cases h
    | cons y b =>
      have h : (xwk1 x y && xwkL a b) = true := h
      rw [Bool.and_eq_true] at h
      obtain ⟨g1, g2⟩ := ih h.2
      refine ⟨by simp [g1], fun k z hz => ?_⟩
      cases k with
      | zero => cases hz; exact ⟨x, rfl, h.1⟩
      | succ k => exact g2 k z (by simpa using hz)
theorem xwkT_ok : ∀ {a b : List yKd}, xwkT a b = true → ∀ (k : Nat) (x : yKd), a[k]? = some x → ∃ y, b[k]? = some y ∧ xwk x y = true := by
  intro a
  induction a with
  | nil => intro b h k x hx; simp at hx
  | cons x0 a ih =>
    intro b h k x hx
    cases b with
    | nil => cases h
    | cons y b =>
      have h : (xwk x0 y && xwkT a b) = true := h
      rw [Bool.and_eq_true] at h
      cases k with
      | zero => cases hx; exact ⟨y, rfl, h.1⟩
      | succ k => exact ih h.2 k x (by simpa using hx)
theorem xwk_ok {x y : yKd} {e : va_E} (h : xwk x y = true) (hx : yTy sz sr ca x e) : yTy sz sr ca y e := by
  obtain ⟨q, ⟨ci, rs⟩ | ⟨kd, len, ar⟩⟩ := x
  · obtain ⟨q', ⟨ci', rs'⟩ | ⟨kd', len', ar'⟩⟩ := y
    · have h : (Nat.beq ci ci' && xwkL rs rs') = true := h
      rw [Bool.and_eq_true] at h
      have e1 := Nat.eq_of_beq_eq_true h.1
      subst e1
      obtain ⟨g1, g2⟩ := xwkL_ok h.2
      obtain ⟨vs, rfl, h2, h3, h4⟩ := hx
      refine ⟨vs, rfl, by rw [h2, g1], h3, fun k ru w hk hw => ?_⟩
      obtain ⟨ru0, a1, a2⟩ := g2 k ru hk
      exact xwk1_ok a2 (h4 k ru0 w a1 hw)
    · cases h
  · obtain ⟨q', ⟨ci', rs'⟩ | ⟨kd', len', ar'⟩⟩ := y
    · cases h
    · have h : (Nat.beq kd kd' && (Nat.beq len len' && (ile ar'.1 ar.1 && (ile ar.2.1 ar'.2.1 && ((match ar'.2.2.1 with
        | [] => true
        | _ :: _ => false) && Nat.beq ar'.2.2.2 0))))) = true := h
      simp only [Bool.and_eq_true, ile_iff] at h
      obtain ⟨e1, e2, e3, e4, e5, e6⟩ := h
      have e1 := Nat.eq_of_beq_eq_true e1
      have e2 := Nat.eq_of_beq_eq_true e2
      have e6 := Nat.eq_of_beq_eq_true e6
      subst e1; subst e2
      have e7 : ar'.2.2.1 = [] := by
        split at e5
        · rename_i hz; exact hz
        · cases e5
      rcases hx with ⟨h3, f, rfl, hall⟩ | hx
      · refine Or.inl ⟨h3, f, rfl, fun j hj => ?_⟩
        obtain ⟨⟨b1, b2⟩, -⟩ := hall j hj
        refine ⟨⟨by omega, by omega⟩, fun q hq => ?_, fun h0 => ?_, fun h0 => ?_⟩
        · rw [e7] at hq; cases hq
        · rw [e6] at h0; cases h0
        · rw [e6] at h0; cases h0
      · exact Or.inr hx
theorem yWd_weak {tt tt1 : List yKd} (h : xwkT tt tt1 = true) (hW : yWd sz sr tt ca ws) : yWd sz sr tt1 ca ws := by
  obtain ⟨h1, h2⟩ := hW
  refine ⟨h1, fun i q hq => ?_⟩
  obtain ⟨g1, t, kd, g2, g3, g4⟩ := h2 i q hq
  rw [zget_eq] at g3
  obtain ⟨y, a1, a2⟩ := xwkT_ok h t kd g3
  exact ⟨g1, t, y, g2, by rw [zget_eq]; exact a1, xwk_ok a2 g4⟩
end xWeak
