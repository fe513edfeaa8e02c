/-! Two contracts of one method are one. -/
section xBoth
theorem Met_both {l : Launch} {y : MethodName} {ws : List Cond} {rm : Room} {P1 P2 : Array Value → State → Prop} {Q1 Q2 : Array Value → State → Outcome → State → Prop} {mc ms : Nat} {free : Addr → Prop} (h1 : Met l y ws rm P1 Q1 mc ms free) (h2 : Met l y ws rm P2 Q2 mc ms free) : Met l y ws rm (fun a s => P1 a s ∧ P2 a s) (fun a st o t => Q1 a st o t ∧ Q2 a st o t) mc ms free := by
  intro p e ha hc hk s m args below hf happ hP hK
  obtain ⟨n, o, w1, r1, e1, q1, fr⟩ := h1 p e ha hc hk s m args below hf happ hP.1 trivial
  obtain ⟨n2, o2, w2, r2, e2, q2, -⟩ := h2 p e ha hc hk s m args below hf happ hP.2 trivial
  obtain ⟨rfl, rfl⟩ := the_end_unique (f := fun k => stepsAlone p.tables e k s) w1 e1 w2 e2
  exact ⟨n, o, w1, r1, e1, ⟨q1, q2⟩, fr⟩
end xBoth
