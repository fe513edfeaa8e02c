/-! What doesn't look at the script runs alike whatever is known of it. -/
def zP0 : zPar := (none, [], none)
theorem zand_dep {kc : Option Nat} {x y : zAV} {k : zAV → zOut} {r : Bool × zCfg} (h : zand none x y k = some r) : zand kc x y k = some r := by
  unfold zand at h ⊢
  split at h
  · cases h
  · exact h
theorem zx_bin_dep {kc : Option Nat} {pc : Nat} {L : List (Option zAV)} {S : List zAV} {H : zHp} {n sl : Nat} {r : Bool × zCfg} (h : zx_bin (zand none) pc L S H n sl = some r) : zx_bin (zand kc) pc L S H n sl = some r := by
  unfold zx_bin at h ⊢
  split at h
  · exact zand_dep h
  · cases h
theorem zx_alen_dep {P : zPar} {pc : Nat} {L : List (Option zAV)} {S : List zAV} {H : zHp} {n sl : Nat} {r : Bool × zCfg} (h : zx_alen zP0 pc L S H n sl = some r) : zx_alen P pc L S H n sl = some r := by
  unfold zx_alen at h ⊢
  split at h
  · split at h
    · exact h
    · obtain ⟨hcond, -⟩ := zif_some h
      simp [zP0] at hcond
  · cases h
theorem zx_ald_dep {P : zPar} {isB : Bool} {pc : Nat} {L : List (Option zAV)} {S : List zAV} {H : zHp} {n sl : Nat} {r : Bool × zCfg} (h : zx_ald zP0 isB pc L S H n sl = some r) : zx_ald P isB pc L S H n sl = some r := by
  unfold zx_ald at h ⊢
  split at h
  · split at h
    · split at h
      · exact h
      · obtain ⟨hcond, -⟩ := zif_some h
        have e0 : ∀ q, Nat.blt q (zlen zP0) = false := fun q => rfl
        simp [e0] at hcond
    · cases h
  · cases h
theorem zafter_dep {pc : Nat} {L : List (Option zAV)} {S : List zAV} {n sl : Nat} {q q1 : zRes} {r : Bool × zCfg} (hq : ∀ x, q = some x → q1 = some x) (h : zafter pc L S n sl q = some r) : zafter pc L S n sl q1 = some r := by
  cases q with
  | none => cases h
  | some x => rw [hq x rfl]; exact h
theorem zx_callV_dep {call call1 : zCall} (hc : ∀ j as H n sl x, call j as H n sl = some x → call1 j as H n sl = some x) {j b pc : Nat} {L : List (Option zAV)} {S : List zAV} {H : zHp} {n sl : Nat} {r : Bool × zCfg} (h : zx_callV call j b pc L S H n sl = some r) : zx_callV call1 j b pc L S H n sl = some r := by
  unfold zx_callV at h ⊢
  split at h
  · split at h
    · split at h
      · obtain ⟨hcond, h⟩ := zif_some h
        rw [hcond]
        exact zafter_dep (hc _ _ _ _ _) h
      · cases h
    · cases h
  · cases h
theorem zx_callS_dep {call call1 : zCall} (hc : ∀ j as H n sl x, call j as H n sl = some x → call1 j as H n sl = some x) {j b pc : Nat} {L : List (Option zAV)} {S : List zAV} {H : zHp} {n sl : Nat} {r : Bool × zCfg} (h : zx_callS call j b pc L S H n sl = some r) : zx_callS call1 j b pc L S H n sl = some r := by
  unfold zx_callS at h ⊢
  split at h
  · obtain ⟨hcond, h⟩ := zif_some h
    rw [hcond]
    exact zafter_dep (hc _ _ _ _ _) h
  · cases h
set_option maxHeartbeats 4000000 in
theorem zex_dep {P : zPar} {df : List (List (List zAV))} {call call1 : zCall} (hc : ∀ j as H n sl x, call j as H n sl = some x → call1 j as H n sl = some x) {i : Instr} {a b pc : Nat} {L : List (Option zAV)} {S : List zAV} {H : zHp} {n sl : Nat} {r : Bool × zCfg} (h : zex zP0 df call i a b pc L S H n sl = some r) : zex P df call1 i a b pc L S H n sl = some r := by
  cases i
  case iand => exact zx_bin_dep h
  case arraylength => exact zx_alen_dep h
  case iaload => exact zx_ald_dep h
  case baload => exact zx_ald_dep h
  case invokevirtual => exact zx_callV_dep hc h
  case invokespecial =>
    cases a with
    | zero => exact h
    | succ j => exact zx_callV_dep hc h
  case invokestatic =>
    rcases a with _ | _ | _ | j
    · exact h
    · exact h
    · exact h
    · exact zx_callS_dep hc h
  all_goals exact h
theorem zstep_dep {P : zPar} {df : List (List (List zAV))} {cd : zCode} {call call1 : zCall} (hc : ∀ j as H n sl x, call j as H n sl = some x → call1 j as H n sl = some x) {cf : zCfg} {r : Bool × zCfg} (h : zstep zP0 df cd call cf = some r) : zstep P df cd call1 cf = some r := by
  obtain ⟨pc, L, S, H, n, sl⟩ := cf
  simp only [zstep] at h ⊢
  split at h
  · exact zex_dep hc h
  · cases h
theorem ziter_dep {f g : zCfg → zOut} (hf : ∀ c r, f c = some r → g c = some r) (k : Nat) : ∀ c r, ziter f k c = some r → ziter g k c = some r := by
  induction k with
  | zero => exact hf
  | succ k ih =>
    intro c r h
    rw [ziter_succ] at h ⊢
    split at h
    · rename_i s1 h1
      rw [ih _ _ h1]
      exact ih _ _ h
    · rename_i h2
      rw [ih _ _ h]
      split
      · rename_i s1 h1
        cases h1
        exact absurd h (h2 s1)
      · rfl
theorem zrun_dep {P : zPar} {df : List (List (List zAV))} {mt : List (Nat × zCode)} (d : Nat) : ∀ j as H n sl x, zrun zP0 df mt d j as H n sl = some x → zrun P df mt d j as H n sl = some x := by
  induction d with
  | zero => intro j as H n sl x h; cases h
  | succ d ih =>
    intro j as H n sl x h
    simp only [zrun] at h ⊢
    split at h
    · obtain ⟨hcond, h⟩ := zif_some h
      rw [hcond]
      show zout _ _ = some x
      unfold zout at h ⊢
      split at h
      · rename_i fl pc L S H2 n2 sl2 hit
        rw [ziter_dep (fun c r => zstep_dep ih) 20 _ _ hit]
        exact h
      · cases h
    · cases h
