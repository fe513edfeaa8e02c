/-! The tables' words: a word by its place. -/
noncomputable section
def zWc : List (List Cond) := [k2_sels lw_privs, tables_1_1, tables_1_2, tables_1_3, tables_1_4, tables_1_5, tables_1_6, tables_1_7, tables_1_8, tables_1_9]
def zword (w : Nat) : Option Cond := match zget zWc (w / 256) with
  | none => none
  | some ch => zget ch (w % 256)
def zW : List Cond := lw_tbl.filter goodWord
def zisw (w : Nat) (c : Cond) : Bool := decide (zword w = some c) && goodWord c
theorem zWc_all : lw_tbl = zWc.flatten := by
  simp only [zWc, lw_tbl, tables_1, List.flatten_cons, List.flatten_nil, List.append_nil]
theorem zisw_mem {w : Nat} {c : Cond} (h : zisw w c = true) : c ∈ zW := by
  unfold zisw at h
  rw [Bool.and_eq_true, decide_eq_true_eq] at h
  obtain ⟨h1, h2⟩ := h
  refine List.mem_filter.mpr ⟨?_, h2⟩
  unfold zword at h1
  cases hc : zget zWc (w / 256) with
  | none => rw [hc] at h1; cases h1
  | some ch =>
    rw [hc] at h1
    rw [zget_eq] at hc
    dsimp only at h1
    rw [zget_eq] at h1
    rw [zWc_all]
    exact List.mem_flatten.mpr ⟨ch, List.mem_of_getElem? hc, List.mem_of_getElem? h1⟩
theorem zW_good {w : Cond} (h : w ∈ zW) : goodWord w = true := (List.mem_filter.mp h).2
theorem zW_tbl {w : Cond} (h : w ∈ zW) : w ∈ lw_tbl := (List.mem_filter.mp h).1
end
