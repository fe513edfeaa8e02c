/-! What a method does, read off its code at once: the machine with what follows it handed in. -/
section xNat
variable {R A : Type} {pc a b len : Nat} {L : List (Option xV)} {S : List xV} {C : xC} {P : xPar} {call : xCl}
theorem xg_bind (q : Bool) (o : Option A) (k : A → Option R) : (xg q o).bind k = xg q (o.bind k) := by cases q <;> rfl
theorem cond_bind (q : Bool) (o1 o2 : Option A) (k : A → Option R) : (cond q o1 o2).bind k = cond q (o1.bind k) (o2.bind k) := by cases q <;> rfl
theorem xtgt_bind (off : Int) (f : Nat → Option A) (k : A → Option R) : (xtgt pc off f).bind k = xtgt pc off fun n => (f n).bind k := by
  unfold xtgt
  split <;> rfl
variable {k : xK R}
theorem xs_load_nat {ok : xV → Bool} : xs_load ok len a pc L S C k = (xs_load ok len a pc L S C some).bind k := by
  unfold xs_load
  (repeat' split) <;> first | rfl | simp [xg_bind, cond_bind]
theorem xs_store_nat {ok : xV → Bool} : xs_store ok len a pc L S C k = (xs_store ok len a pc L S C some).bind k := by
  unfold xs_store
  (repeat' split) <;> first | rfl | simp [xg_bind, cond_bind]
theorem xs_lstore_nat : xs_lstore len a pc L S C k = (xs_lstore len a pc L S C some).bind k := by
  unfold xs_lstore
  (repeat' split) <;> first | rfl | simp [xg_bind, cond_bind]
theorem xs_iinc_nat : xs_iinc a b pc L S C k = (xs_iinc a b pc L S C some).bind k := by
  unfold xs_iinc
  (repeat' split) <;> first | rfl | simp [xg_bind, cond_bind]
theorem xs_bin_nat {f : Int → Int → Int} : xs_bin f pc L S C k = (xs_bin f pc L S C some).bind k := by
  unfold xs_bin
  (repeat' split) <;> first | rfl | simp [xg_bind, cond_bind]
theorem xs_div_nat {f : Int → Int → Int} : xs_div f pc L S C k = (xs_div f pc L S C some).bind k := by
  unfold xs_div
  (repeat' split) <;> first | rfl | simp [xg_bind, cond_bind]
theorem xs_un_nat {f : Int → Int} : xs_un f pc L S C k = (xs_un f pc L S C some).bind k := by
  unfold xs_un
  (repeat' split) <;> first | rfl | simp [xg_bind, cond_bind]
theorem xs_lbin_nat {f : Int → Int → Int} : xs_lbin f pc L S C k = (xs_lbin f pc L S C some).bind k := by
  unfold xs_lbin
  (repeat' split) <;> first | rfl | simp [xg_bind, cond_bind]
theorem xs_lsh_nat {f : Int → Int → Int} : xs_lsh f pc L S C k = (xs_lsh f pc L S C some).bind k := by
  unfold xs_lsh
  (repeat' split) <;> first | rfl | simp [xg_bind, cond_bind]
theorem xs_lcmp_nat : xs_lcmp pc L S C k = (xs_lcmp pc L S C some).bind k := by
  unfold xs_lcmp
  (repeat' split) <;> first | rfl | simp [xg_bind, cond_bind]
theorem xs_i2l_nat : xs_i2l pc L S C k = (xs_i2l pc L S C some).bind k := by
  unfold xs_i2l
  (repeat' split) <;> first | rfl | simp [xg_bind, cond_bind]
theorem xs_l2i_nat : xs_l2i pc L S C k = (xs_l2i pc L S C some).bind k := by
  unfold xs_l2i
  (repeat' split) <;> first | rfl | simp [xg_bind, cond_bind]
theorem xs_icmp_nat {c : ClassFile.Cond} : xs_icmp c a pc L S C k = (xs_icmp c a pc L S C some).bind k := by
  unfold xs_icmp
  (repeat' split) <;> first | rfl | simp [xg_bind, cond_bind]
theorem xs_if_nat {c : ClassFile.Cond} : xs_if c a pc L S C k = (xs_if c a pc L S C some).bind k := by
  unfold xs_if
  (repeat' split) <;> first | rfl | simp [xg_bind, cond_bind]
theorem xs_get_nat : xs_get P a b pc L S C k = (xs_get P a b pc L S C some).bind k := by
  unfold xs_get
  (repeat' split) <;> first | rfl | simp [xg_bind, cond_bind]
theorem xs_put_nat : xs_put P a b pc L S C k = (xs_put P a b pc L S C some).bind k := by
  unfold xs_put
  repeat' split
  · rw [Option.bind_assoc]; rfl
  all_goals rfl
theorem xs_alen_nat : xs_alen P pc L S C k = (xs_alen P pc L S C some).bind k := by
  unfold xs_alen
  (repeat' split) <;> first | rfl | simp [xg_bind, cond_bind]
theorem xs_ald_nat {q : Bool} : xs_ald P q pc L S C k = (xs_ald P q pc L S C some).bind k := by
  unfold xs_ald
  (repeat' split) <;> first | rfl | simp [xg_bind, cond_bind]
theorem xs_lald_nat : xs_lald P pc L S C k = (xs_lald P pc L S C some).bind k := by
  unfold xs_lald
  (repeat' split) <;> first | rfl | simp [xg_bind, cond_bind]
theorem xs_ast_nat {q : Bool} : xs_ast P q pc L S C k = (xs_ast P q pc L S C some).bind k := by
  unfold xs_ast
  (repeat' split) <;> first | rfl | simp [xg_bind, cond_bind]
theorem xs_mm_nat {f : Int → Int → Int} : xs_mm f pc L S C k = (xs_mm f pc L S C some).bind k := by
  unfold xs_mm
  (repeat' split) <;> first | rfl | simp [xg_bind, cond_bind]
theorem xs_copy_nat : xs_copy P pc L S C k = (xs_copy P pc L S C some).bind k := by
  unfold xs_copy
  (repeat' split) <;> first | rfl | simp [xg_bind, cond_bind]
theorem xs_last_nat : xs_last P pc L S C k = (xs_last P pc L S C some).bind k := by
  unfold xs_last
  (repeat' split) <;> first | rfl | simp [xg_bind, cond_bind]
theorem xs_chr_nat : xs_chr pc L S C k = (xs_chr pc L S C some).bind k := by
  unfold xs_chr
  (repeat' split) <;> first | rfl | simp [cond_bind]
theorem xs_dup_nat : xs_dup pc L S C k = (xs_dup pc L S C some).bind k := by
  unfold xs_dup
  (repeat' split) <;> first | rfl | simp [xg_bind, cond_bind]
theorem xs_pop_nat : xs_pop pc L S C k = (xs_pop pc L S C some).bind k := by
  unfold xs_pop
  (repeat' split) <;> first | rfl | simp [xg_bind, cond_bind]
theorem xs_dup_x1_nat : xs_dup_x1 pc L S C k = (xs_dup_x1 pc L S C some).bind k := by
  unfold xs_dup_x1
  (repeat' split) <;> first | rfl | simp [xg_bind, cond_bind]
theorem xs_dup2_nat : xs_dup2 pc L S C k = (xs_dup2 pc L S C some).bind k := by
  unfold xs_dup2
  (repeat' split) <;> first | rfl | simp [xg_bind, cond_bind]
theorem xs_table_nat {d lo hi : Int} {offs : Array Int} : xs_table d lo hi offs pc L S C k = (xs_table d lo hi offs pc L S C some).bind k := by
  unfold xs_table
  split
  · rename_i x r
    rw [xg_bind]
    congr 1
    generalize offs.toList = os
    revert lo
    induction os with
    | nil => intro lo; exact (xtgt_bind (A := xCf) d (fun tg => some (tg, L, r, C)) k).symm
    | cons o os ih =>
      intro lo
      show cond (_ : Bool) (_ : Option R) (_ : Option R) = Option.bind (cond (_ : Bool) (_ : Option xCf) (_ : Option xCf)) k
      rw [cond_bind, xtgt_bind]
      exact congrArg _ (ih (lo := lo + 1))
  · rfl
theorem xs_lookup_nat {d : Int} {ps : Array (Int × Int)} : xs_lookup d ps pc L S C k = (xs_lookup d ps pc L S C some).bind k := by
  unfold xs_lookup
  split
  · rename_i x r
    generalize ps.toList = os
    induction os with
    | nil => exact (xtgt_bind (A := xCf) d (fun tg => some (tg, L, r, C)) k).symm
    | cons o os ih =>
      show cond (_ : Bool) (_ : Option R) (_ : Option R) = Option.bind (cond (_ : Bool) (_ : Option xCf) (_ : Option xCf)) k
      rw [cond_bind, xtgt_bind]
      exact congrArg _ ih
  · rfl
theorem xaft_nat {rk : Nat} {q : Int × xC} : xaft rk pc L S k q = (xaft rk pc L S some q).bind k := by
  unfold xaft
  split <;> rfl
theorem xs_callV_nat {j : Nat} : xs_callV P call j b pc L S C k = (xs_callV P call j b pc L S C some).bind k := by
  unfold xs_callV
  repeat' split
  · rw [Option.bind_assoc]; exact congrArg _ (funext fun q => xaft_nat)
  all_goals rfl
theorem xs_callS_nat {j : Nat} : xs_callS P call j b pc L S C k = (xs_callS P call j b pc L S C some).bind k := by
  unfold xs_callS
  repeat' split
  · rw [Option.bind_assoc]; exact congrArg _ (funext fun q => xaft_nat)
  all_goals rfl
theorem xsel_nat {i : Instr} : xsel i P call a b pc L S C k = (xsel i P call a b pc L S C some).bind k := by
  unfold xsel
  split
  all_goals first
    | rfl
    | exact xs_load_nat
    | exact xs_store_nat
    | exact xs_lstore_nat
    | exact xs_iinc_nat
    | exact xs_bin_nat
    | exact xs_div_nat
    | exact xs_un_nat
    | exact xs_lbin_nat
    | exact xs_lsh_nat
    | exact xs_lcmp_nat
    | exact xs_i2l_nat
    | exact xs_l2i_nat
    | exact xs_icmp_nat
    | exact xs_if_nat
    | exact xs_get_nat
    | exact xs_put_nat
    | exact xs_alen_nat
    | exact xs_ald_nat
    | exact xs_lald_nat
    | exact xs_ast_nat
    | exact xs_last_nat
    | exact xs_dup_nat
    | exact xs_chr_nat
    | exact xs_pop_nat
    | exact xs_dup_x1_nat
    | exact xs_dup2_nat
    | exact xs_table_nat
    | exact xs_lookup_nat
    | exact xs_callV_nat
    | (split <;> first | exact xs_callS_nat | exact xs_copy_nat | exact xs_mm_nat | rfl)
end xNat
section xFix
/-- as xto, xseg, with what follows handed in -/
noncomputable def xtoK {R : Type} (P : xPar) (cd : zCode) (call : xCl) (stop : Nat → Bool) (k : xK R) : Nat → xCf → Option R := fun n => Nat.rec (motive := fun _ => xCf → Option R) (fun _ => none) (fun _ ih cf => match zfetch cd cf.1 with
  | some (i, a, b, _) => match yisRet i || stop cf.1 with
    | true => k cf
    | false => xsel i P call a b cf.1 cf.2.1 cf.2.2.1 cf.2.2.2 ih
  | none => none) n
noncomputable def xsegK {R : Type} (P : xPar) (cd : zCode) (call : xCl) (stop : Nat → Bool) (k : xK R) (n : Nat) (cf : xCf) : Option R := match zfetch cd cf.1 with
  | some (i, a, b, _) => match yisRet i with
    | true => none
    | false => xsel i P call a b cf.1 cf.2.1 cf.2.2.1 cf.2.2.2 (xtoK P cd call stop k n)
  | none => none
theorem xtoK_eq {R : Type} {P : xPar} {cd : zCode} {call : xCl} {stop : Nat → Bool} {k : xK R} : ∀ (n : Nat) (cf : xCf), xtoK P cd call stop k n cf = (xto P cd call stop n cf).bind k := by
  intro n
  induction n with
  | zero => intro cf; rfl
  | succ n ih =>
    intro cf
    show (match zfetch cd cf.1 with
      | some (i, a, b, _) => match yisRet i || stop cf.1 with
        | true => k cf
        | false => xsel i P call a b cf.1 cf.2.1 cf.2.2.1 cf.2.2.2 (xtoK P cd call stop k n)
      | none => none) = (match zfetch cd cf.1 with
      | some (i, a, b, _) => match yisRet i || stop cf.1 with
        | true => some cf
        | false => xsel i P call a b cf.1 cf.2.1 cf.2.2.1 cf.2.2.2 (xto P cd call stop n)
      | none => none).bind k
    split
    · split
      · rfl
      · rw [xsel_nat (k := xtoK P cd call stop k n), xsel_nat (k := xto P cd call stop n), Option.bind_assoc]
        exact congrArg _ (funext ih)
    · rfl
theorem xsegK_eq {R : Type} {P : xPar} {cd : zCode} {call : xCl} {stop : Nat → Bool} {k : xK R} {n : Nat} {cf : xCf} : xsegK P cd call stop k n cf = (xseg P cd call stop n cf).bind k := by
  unfold xsegK xseg
  cases hf : zfetch cd cf.1 with
  | none => rfl
  | some q =>
    obtain ⟨i, a, b, w⟩ := q
    dsimp only
    cases hr : yisRet i with
    | true => rfl
    | false =>
      dsimp only
      rw [xsel_nat (k := xtoK P cd call stop k n), xsel_nat (k := xto P cd call stop n), Option.bind_assoc]
      exact congrArg _ (funext (xtoK_eq n))
/-- what follows a stretch: the return's value, else the way on -/
noncomputable def xfin (cd : zCode) (call : xCl) (stop : Nat → Bool) (rk : Nat) : xK (Int × xC) := fun cf => match zfetch cd cf.1 with
  | some (i, a, _, _) => (match yisRet i with
    | true => xfr rk cf.2.2.2 (xrt i a cf.2.2.1)
    | false => xgoL cd call stop rk cf)
  | none => none
theorem xgoL_fin {cd : zCode} {call : xCl} {stop : Nat → Bool} {rk : Nat} {cf : xCf} : xgoL cd call stop rk cf = xfin cd call stop rk cf := by
  unfold xfin
  split
  · rename_i i a b w hf
    split
    · rename_i hr
      have e : xend cd rk cf = xfr rk cf.2.2.2 (xrt i a cf.2.2.1) := by
        unfold xend
        rw [hf]
      rw [← e]
      cases he : xend cd rk cf with
      | some r => exact xgoL_end he
      | none =>
        cases hg : xgoL cd call stop rk cf with
        | none => rfl
        | some r =>
          obtain ⟨n, hn⟩ := xgoL_some.mp hg
          cases n with
          | zero => rw [show xend cd rk cf = some r from hn] at he; cases he
          | succ n =>
            have hs : xseg xPr cd call stop 300 cf = none := by
              unfold xseg
              rw [hf]
              dsimp only
              rw [hr]
            simp [xgo, hs] at hn
    · rfl
  · rename_i hf
    cases hg : xgoL cd call stop rk cf with
    | none => rfl
    | some r =>
      obtain ⟨n, hn⟩ := xgoL_some.mp hg
      cases n with
      | zero =>
        have hn : xend cd rk cf = some r := hn
        unfold xend at hn
        rw [hf] at hn
        cases hn
      | succ n =>
        have hs : xseg xPr cd call stop 300 cf = none := by
          unfold xseg
          rw [hf]
        simp [xgo, hs] at hn
noncomputable def xnr (cd : zCode) (pc : Nat) : Bool := match zfetch cd pc with
  | some (i, _, _, _) => !(yisRet i)
  | none => false
theorem xgoL_fix {cd : zCode} {call : xCl} {stop : Nat → Bool} {rk : Nat} {cf : xCf} (h : xnr cd cf.1 = true) : xgoL cd call stop rk cf = xsegK xPr cd call stop (xfin cd call stop rk) 300 cf := by
  rw [xsegK_eq]
  cases hs : xseg xPr cd call stop 300 cf with
  | some cf1 => rw [xgoL_seg hs]; exact xgoL_fin
  | none =>
    cases hg : xgoL cd call stop rk cf with
    | none => rfl
    | some r =>
      obtain ⟨n, hn⟩ := xgoL_some.mp hg
      cases n with
      | zero =>
        obtain ⟨i, a, b, w, k1, k2, -⟩ := xend_some (show xend cd rk cf = some r from hn)
        unfold xnr at h
        rw [k1] at h
        dsimp only at h
        rw [xrt_ret k2] at h
        cases h
      | succ n => simp [xgo, hs] at hn
theorem xM_fix {d j nL rk : Nat} {cd : zCode} {as : List xV} {C : xC} (hm : zget zMt j = some (nL, cd)) (hk : zget xRk j = some rk) (hl : Nat.ble (xentry as).length nL = true) (hr : xnr cd 0 = true) :
    xM (d + 1) j as C = xsegK xPr cd (xM d) (xstop j) (xfin cd (xM d) (xstop j) rk) 300 (xstart nL as C) := by
  have e : decide ((xentry as).length ≤ nL) = true := decide_eq_true (Nat.le_of_ble_eq_true hl)
  show (match zget zMt j with
    | some (nL, cd) => (match zget xRk j with
      | some rk => cond (decide ((xentry as).length ≤ nL)) (xgoL cd (xM d) (xstop j) rk (xstart nL as C)) none
      | none => none)
    | none => none) = _
  rw [hm]
  dsimp only
  rw [hk]
  dsimp only
  rw [e]
  exact xgoL_fix hr
end xFix
