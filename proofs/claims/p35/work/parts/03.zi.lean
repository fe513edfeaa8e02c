/-! A machine of one's own, that is run by the kernel: values are numbers, or numbers of which bounds are known; cells are rows; what it does the real machine does (04). -/
noncomputable section
abbrev zAV : Type := Value ⊕ (Nat × Int × Int)
abbrev zAC : Type := (Nat × List (List zAV)) ⊕ (Nat × Nat × Option Nat)
abbrev zHp : Type := List (List (Option zAC))
/-- an instruction, two numbers that it wants, the place of its word in the tables -/
abbrev zRI : Type := Instr × Nat × Nat × Nat
abbrev zCode : Type := List (List (List (Option zRI)))
/-- pc, locals, stack, cells, how many cells, how many slots -/
abbrev zCfg : Type := Nat × List (Option zAV) × List zAV × zHp × Nat × Nat
/-- the script's length, the bounds of its places, what its first place is by 63 -/
abbrev zPar : Type := Option Nat × List (Int × Int) × Option Nat
def zlen (P : zPar) : Nat := match P.1 with
  | some L => L
  | none => 0
abbrev zRes : Type := Option (Option zAV × zHp × Nat × Nat)
def zst {β : Type} (n : Nat) (k : Nat → β) : β := Nat.rec (motive := fun _ => β) (k 0) (fun m _ => k (Nat.succ m)) n
theorem zst_eq {β : Type} (n : Nat) (k : Nat → β) : zst n k = k n := by cases n <;> rfl
def zget {α : Type} (l : List α) : Nat → Option α := List.rec (motive := fun _ => Nat → Option α) (fun _ => none) (fun a _ ih i => Nat.rec (motive := fun _ => Option α) (some a) (fun j _ => ih j) i) l
theorem zget_eq {α : Type} (l : List α) (i : Nat) : zget l i = l[i]? := by
  induction l generalizing i with
  | nil => rfl
  | cons a t ih => cases i with
    | zero => rfl
    | succ i => exact ih i
def zset {α β : Type} (l : List α) : Nat → α → (List α → Option β) → Option β := List.rec (motive := fun _ => Nat → α → (List α → Option β) → Option β) (fun _ _ _ => none) (fun a t ih i v k => Nat.rec (motive := fun _ => Option β) (k (v :: t)) (fun j _ => ih j v (fun u => k (a :: u))) i) l
theorem zset_some {α β : Type} {l : List α} {i : Nat} {v : α} {k : List α → Option β} {r : β} (h : zset l i v k = some r) : i < l.length ∧ k (l.set i v) = some r := by
  induction l generalizing i k with
  | nil => cases h
  | cons a t ih => cases i with
    | zero => exact ⟨by simp, h⟩
    | succ i =>
      obtain ⟨h1, h2⟩ := ih (k := fun u => k (a :: u)) h
      exact ⟨by simp; omega, by simpa using h2⟩
def hget (hp : zHp) (i : Nat) : Option zAC := match zget hp (i / 16) with
  | none => none
  | some r => match zget r (i % 16) with
    | some (some c) => some c
    | _ => none
def hset {β : Type} (hp : zHp) (i : Nat) (c : zAC) (k : zHp → Option β) : Option β := match zget hp (i / 16) with
  | none => none
  | some r => zset r (i % 16) (some c) fun r1 => zset hp (i / 16) r1 k
theorem hset_some {β : Type} {hp : zHp} {i : Nat} {c : zAC} {k : zHp → Option β} {r : β} (h : hset hp i c k = some r) : ∃ hp1, (∀ j, hget hp1 j = if j = i then some c else hget hp j) ∧ k hp1 = some r := by
  unfold hset at h
  cases hr : zget hp (i / 16) with
  | none => rw [hr] at h; cases h
  | some row =>
    rw [hr] at h
    obtain ⟨h1, h2⟩ := zset_some h
    obtain ⟨h3, h4⟩ := zset_some h2
    refine ⟨_, fun j => ?_, h4⟩
    rw [zget_eq] at hr
    unfold hget
    simp only [zget_eq]
    by_cases hj : j = i
    · subst hj
      simp [h3, h1]
    · rw [if_neg hj]
      by_cases hq : j / 16 = i / 16
      · have hm : j % 16 ≠ i % 16 := by omega
        rw [hq, hr, List.getElem?_set_self h3]
        simp [List.getElem?_set_ne (Ne.symm hm)]
      · rw [List.getElem?_set_ne (Ne.symm hq)]
def fget (fs : List (List zAV)) (k : Nat) : Option zAV := match zget fs (k / 12) with
  | none => none
  | some r => zget r (k % 12)
def fset {β : Type} (fs : List (List zAV)) (k : Nat) (a : zAV) (kk : List (List zAV) → Option β) : Option β := match zget fs (k / 12) with
  | none => none
  | some r => zset r (k % 12) a fun r1 => zset fs (k / 12) r1 kk
theorem fset_some {β : Type} {fs : List (List zAV)} {i : Nat} {c : zAV} {k : List (List zAV) → Option β} {r : β} (h : fset fs i c k = some r) : ∃ f1, (∀ j, fget f1 j = if j = i then some c else fget fs j) ∧ k f1 = some r := by
  unfold fset at h
  cases hr : zget fs (i / 12) with
  | none => rw [hr] at h; cases h
  | some row =>
    rw [hr] at h
    obtain ⟨h1, h2⟩ := zset_some h
    obtain ⟨h3, h4⟩ := zset_some h2
    refine ⟨_, fun j => ?_, h4⟩
    rw [zget_eq] at hr
    unfold fget
    simp only [zget_eq]
    by_cases hj : j = i
    · subst hj
      simp [h3, h1]
    · rw [if_neg hj]
      by_cases hq : j / 12 = i / 12
      · have hm : j % 12 ≠ i % 12 := by omega
        rw [hq, hr, List.getElem?_set_self h3]
        simp [List.getElem?_set_ne (Ne.symm hm)]
      · rw [List.getElem?_set_ne (Ne.symm hq)]
-- ints and longs as numbers that the kernel has at hand
def zint {β : Type} (x : Int32) (k : zAV → β) : β := zst x.toUInt32.toNat fun n => k (.inl (.int (Int32.ofNat n)))
theorem z_i32 (x : Int32) : Int32.ofNat x.toUInt32.toNat = x := by
  apply Int32.toBitVec_inj.mp
  simp
theorem zint_eq {β : Type} (x : Int32) (k : zAV → β) : zint x k = k (.inl (.int x)) := by
  unfold zint
  rw [zst_eq, z_i32]
def zlng {β : Type} (x : Int64) (k : zAV → β) : β := zst x.toUInt64.toNat fun n => k (.inl (.long (Int64.ofNat n)))
theorem z_i64 (x : Int64) : Int64.ofNat x.toUInt64.toNat = x := by
  apply Int64.toBitVec_inj.mp
  simp
theorem zlng_eq {β : Type} (x : Int64) (k : zAV → β) : zlng x k = k (.inl (.long x)) := by
  unfold zlng
  rw [zst_eq, z_i64]
def ztop : zAV := .inr (0, -2147483648, 2147483647)
def zcon : zAV → Option Int32
  | .inl (.int x) => some x
  | _ => none
def zlon : zAV → Option Int64
  | .inl (.long x) => some x
  | _ => none
def zii : zAV → Bool
  | .inl (.int _) => true
  | .inr _ => true
  | _ => false
def zrf : zAV → Option Nat
  | .inl (.ref i) => some i
  | _ => none
/-- of the script's array: its address is no cell of ours -/
def zscr : zAV → Bool
  | .inl (.retAddr _) => true
  | _ => false
def zcat : zAV → Nat
  | .inl v => v.category
  | .inr _ => 1
def zrng : zAV → Option (Int × Int)
  | .inl (.int x) => some (x.toInt, x.toInt)
  | .inr (_, lo, hi) => some (lo, hi)
  | _ => none
def zflip (x : Int32) : Nat := (x.toUInt32.toNat + 2147483648) % 4294967296
def zholds (c : ClassFile.Cond) (x y : Int32) : Prop := match c with
  | .eq => x = y
  | .ne => ¬ x = y
  | .lt => x < y
  | .ge => y ≤ x
  | .gt => y < x
  | .le => x ≤ y
def zcc (c : ClassFile.Cond) (x y : Int32) : Bool := match c with
  | .eq => Nat.beq x.toUInt32.toNat y.toUInt32.toNat
  | .ne => !(Nat.beq x.toUInt32.toNat y.toUInt32.toNat)
  | .lt => Nat.blt (zflip x) (zflip y)
  | .ge => Nat.ble (zflip y) (zflip x)
  | .gt => Nat.blt (zflip y) (zflip x)
  | .le => Nat.ble (zflip x) (zflip y)
def zci (c : ClassFile.Cond) (l1 h1 l2 h2 : Int) : Option Bool := match c with
  | .lt => if h1 < l2 then some true else if h2 ≤ l1 then some false else none
  | .ge => if h2 ≤ l1 then some true else if h1 < l2 then some false else none
  | .gt => if h2 < l1 then some true else if h1 ≤ l2 then some false else none
  | .le => if h1 ≤ l2 then some true else if h2 < l1 then some false else none
  | .eq => if h1 < l2 then some false else if h2 < l1 then some false else none
  | .ne => if h1 < l2 then some true else if h2 < l1 then some true else none
def zid : zAV → Nat
  | .inr (i, _, _) => i
  | _ => 0
/-- of a number with itself -/
def zrefl : ClassFile.Cond → Bool
  | .eq => true
  | .ge => true
  | .le => true
  | _ => false
def zcmp (c : ClassFile.Cond) (a b : zAV) : Option Bool := match zcon a with
  | some x => match zcon b with
    | some y => some (zcc c x y)
    | none => match zrng b with
      | some (l2, h2) => zci c x.toInt x.toInt l2 h2
      | none => none
  | none => if Nat.blt 0 (zid a) && Nat.beq (zid a) (zid b) then some (zrefl c) else match zrng a with
    | some (l1, h1) => match zrng b with
      | some (l2, h2) => zci c l1 h1 l2 h2
      | none => none
    | none => none
theorem zflip_toInt (x : Int32) : (zflip x : Int) = x.toInt + 2147483648 := by
  unfold zflip
  have h1 : x.toUInt32.toNat = x.toBitVec.toNat := rfl
  have h2 : x.toInt = x.toBitVec.toInt := rfl
  rw [h1, h2, BitVec.toInt_eq_toNat_cond]
  have h3 := x.toBitVec.isLt
  split <;> omega
theorem zcc_iff (c : ClassFile.Cond) (x y : Int32) : zcc c x y = true ↔ zholds c x y := by
  have e1 : x.toUInt32.toNat = y.toUInt32.toNat ↔ x = y := ⟨fun h => by rw [← z_i32 x, ← z_i32 y, h], fun h => by rw [h]⟩
  have fx := zflip_toInt x
  have fy := zflip_toInt y
  have eb : Nat.beq x.toUInt32.toNat y.toUInt32.toNat = true ↔ x = y := by
    rw [← e1]
    exact ⟨Nat.eq_of_beq_eq_true, fun h => by rw [h]; exact Nat.beq_refl _⟩
  cases c <;> simp only [zcc, zholds, Nat.blt_eq, Nat.ble_eq, Int32.lt_iff_toInt_lt, Int32.le_iff_toInt_le]
  · exact eb
  · rw [← eb]
    cases Nat.beq x.toUInt32.toNat y.toUInt32.toNat <;> simp
  all_goals omega
theorem zcc_false (c : ClassFile.Cond) (x y : Int32) : zcc c x y = false ↔ ¬ zholds c x y := by
  rw [← zcc_iff]
  simp
theorem zci_ok {c : ClassFile.Cond} {l1 h1 l2 h2 : Int} {b : Bool} {x y : Int32} (h : zci c l1 h1 l2 h2 = some b) (a1 : l1 ≤ x.toInt) (a2 : x.toInt ≤ h1) (b1 : l2 ≤ y.toInt) (b2 : y.toInt ≤ h2) : (b = true ↔ zholds c x y) := by
  have e : x = y ↔ x.toInt = y.toInt := Int32.toInt_inj.symm
  cases c <;> simp only [zci] at h <;> simp only [zholds, Int32.lt_iff_toInt_lt, Int32.le_iff_toInt_le, e] <;> (split at h <;> first | (cases h; simp; omega) | (split at h <;> first | (cases h; simp; omega) | (cases h)))
end
