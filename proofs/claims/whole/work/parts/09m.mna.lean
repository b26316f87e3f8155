section StepM
variable {p : Program} {l : Launch} {e : Env} {R : Room} {s : State} {m : MethodId} {args : Array Value} {below : List Frame} {meth : Method} {c : Code} {Q : State → Prop} {D : va_G} {A : Nat → Prop} {ka : Nat → Nat} {ws0 : va_W} {c0 s0 nL : Nat} {cc : ByteArray} {pc : Nat} {L : PL} {st : List Value} {g : PG} {S : PS} {own : Nat} {ini : Bool} {K : PK}
theorem w_mna {i : Nat} (Ev : EnvOK p R s m args meth c cc own ini nL A ka K) (hr : S.2.2.2.2.1 ≤ c0 + R.cells ∧ S.2.2.2.2.2 ≤ s0 + R.slots) (hd : decode cc pc = .ok (.multianewarray i 2, 4)) (h : pmna own i (pc + 4) L g st = some S) (k : PW p l e R s m args below meth c Q D A ka ws0 c0 s0 nL S.1 S.2.1 S.2.2.1 S.2.2.2) : PW p l e R s m args below meth c Q D A ka ws0 c0 s0 nL pc L st g := by
  sorry
end StepM
