/-! The law, run from its entry to its loop's head, whatever the script. -/
noncomputable section
def zH0 : zHp := List.replicate 16 (List.replicate 16 none)
def zlaw0 : zCfg := (0, zentry [.inl (.retAddr 0)] ++ List.replicate 3 none, [], zH0, 0, 0)
def zstepU (tgt : Nat) (f : zCfg → zOut) (c : zCfg) : zOut := if Nat.beq c.1 tgt then some (true, c) else f c
def zlaw1 : zOut := ziter (zstepU 18 (zstep zP0 zDef zC_L_law (zrun zP0 zDef zMt 11))) 5 zlaw0
/-- the locals at the loop's head: the script, the two objects, 0 -/
def ychkL (L : List (Option zAV)) : Bool := match L with
  | [some a, some x, some m, some i] => zscr a && ((match zrf x with
    | some n => Nat.beq n 0
    | none => false) && ((match zrf m with
    | some n => Nat.beq n 74
    | none => false) && (match zcon i with
    | some n => Nat.beq n.toUInt32.toNat 0
    | none => false)))
  | _ => false
def ychkAll (o : zOut) : Bool := match o with
  | some (true, (pc, L, S, H, n, sl)) => Nat.beq pc 18 && (ychkL L && ((match S with
    | [] => true
    | _ :: _ => false) && (ychkH H ySr yTt ySr 0 && (ychkM H ySr yLst.2.2.2.2.1 && (Nat.beq n 126 && (Nat.beq ySr.length 126 && (Nat.ble sl 7302250 && yKinds yTt)))))))
  | _ => false
end
set_option maxRecDepth 100000 in
theorem yq_start : ychkAll zlaw1 = true := by decide +kernel
