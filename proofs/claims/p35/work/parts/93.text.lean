/-! The text constant at the start. -/
def yWtm : Term := .string "RestDays$Tokens" 72
theorem yWb_at : ∀ j : Nat, j < 176 → (flatC (Jvm.Cond.and given_1 narrow_1))[13 + j]? = some (Cond.eq (.elem (.field yWtm "java/lang/String" "value" "[B") (.int (Int32.ofNat j))) (.int (yWb.getD j 0))) := by decide +kernel
theorem yWat_start {s : State} {args : Array Value} (hN : zNestAt s) (hts : ∀ w ∈ lw_tbl, w.before args s = true) (hgv : (Jvm.Cond.and given_1 narrow_1).before args s = true) : yWat s.heap.size s := by
  have fl := flat_of_before _ hgv
  have at_ : ∀ (i : Nat) (cd : Cond), (flatC (Jvm.Cond.and given_1 narrow_1))[i]? = some cd → cd.before args s = true := fun i cd h => fl _ (List.mem_of_getElem? h)
  have hA : ∀ a : Nat, a < s.heap.size → ¬ zA s.heap.size a := fun a h z => by unfold zA at z; omega
  have c1 := at_ 4 (Cond.eq (.static "java/lang/String" "COMPACT_STRINGS" "Z") (.int 1)) (by decide +kernel)
  have c2 := at_ 5 (Cond.isRef (.static "jdk/internal/util/Preconditions" "SIOOBE_FORMATTER" "Ljava/util/function/BiFunction;")) (by decide +kernel)
  have c3 := at_ 9 (Cond.exactly yWtm "java/lang/String") (by decide +kernel)
  have c4 := at_ 10 (Cond.eq (.field yWtm "java/lang/String" "coder" "B") (.int 0)) (by decide +kernel)
  have c5 := at_ 11 (Cond.arrayOf (.field yWtm "java/lang/String" "value" "[B") .byte) (by decide +kernel)
  have c6 := at_ 12 (Cond.eq (.length (.field yWtm "java/lang/String" "value" "[B")) (.int 176)) (by decide +kernel)
  have z1 := va_Zof (A := zA s.heap.size) (hts _ (zisT_mem (w := 864) (c := Cond.laysStatic "java/lang/String" "COMPACT_STRINGS" "Z") (by decide +kernel))) (hts _ (zisT_mem (w := 272) (c := Cond.initialized "java/lang/String") (by decide +kernel))) (va_eqi c1) hA
  obtain ⟨v, hv, hvr⟩ := Cond.isRef_spec c2
  obtain ⟨adK, adV, hS, hE⟩ := vk_Sof (A := zA s.heap.size) (N := 1) (tm := fun _ => yWtm) (len := [176]) (byt := [yWb]) (args := args) (s := s)
    (fun i hi => by cases i with
      | zero => decide
      | succ i => omega)
    (fun _ _ => c3) (fun _ _ => c4) (fun _ _ => c5) (fun i hi => by cases i with
      | zero => exact c6
      | succ i => omega) (fun i hi j hj => by cases i with
      | zero => exact at_ _ _ (yWb_at j hj)
      | succ i => omega) (fun i j hi hj hij => absurd (show i = j by omega) hij) hA
  have key : ∀ f : Option Nat, v = fV f → yWat s.heap.size s := by
    rintro f rfl
    have z2 := va_Zof (A := zA s.heap.size) (hts _ (zisT_mem (w := 872) (c := Cond.laysStatic "jdk/internal/util/Preconditions" "SIOOBE_FORMATTER" "Ljava/util/function/BiFunction;") (by decide +kernel))) (hts _ (zisT_mem (w := 274) (c := Cond.initialized "jdk/internal/util/Preconditions") (by decide +kernel))) hv hA
    obtain ⟨s1, s2, s3, s4⟩ := hS.1 0 (by omega)
    exact ⟨hN, adK 0, adV 0, f, _, ⟨z1, z2, s1, s2, s3, s4⟩, vk_R.of (hts _ (zisT_mem (w := 854) (c := Cond.stringRef "RestDays$Tokens" 72 "week    hours   thing   to      law     rests   if      then    and     deed    ban     goal    gain    guild   of      wants   becomes or      also    not     day     hour    ") (by decide +kernel))) (hE 0 (by omega))⟩
  cases v with
  | ref f => exact key (some f) rfl
  | null => exact key none rfl
  | _ => cases hvr
