section FORMS
def dL (x y : UInt64) : Prop := FP.dcmp x y = some .lt
def dG (x y : UInt64) : Prop := FP.dcmp x y = some .gt
def dE (x y : UInt64) : Prop := FP.dcmp x y = some .eq
/-- what a method's post says, by the kind of its answer -/
def PI {σ : Type} (Wd : σ → va_W) (post : Int32 → σ → Prop) : Option Value → va_W → Prop := fun v w => ∃ (r : Int32) (S : σ), v = some (.int r) ∧ w = Wd S ∧ post r S
def PD {σ : Type} (Wd : σ → va_W) (post : UInt64 → σ → Prop) : Option Value → va_W → Prop := fun v w => ∃ (r : UInt64) (S : σ), v = some (.double r) ∧ w = Wd S ∧ post r S
def PV {σ : Type} (Wd : σ → va_W) (post : σ → Prop) : Option Value → va_W → Prop := fun v w => ∃ S : σ, v = none ∧ w = Wd S ∧ post S
def PR {σ : Type} (Wd : σ → va_W) (post : Option Nat → σ → Prop) : Option Value → va_W → Prop := fun v w => ∃ (r : Option Nat) (S : σ), v = some (va_rf r) ∧ w = Wd S ∧ post r S
def SI (w0 : va_W) (post : Int32 → Prop) : Option Value → va_W → Prop := fun v w => ∃ r : Int32, v = some (.int r) ∧ w = w0 ∧ post r
def SD (w0 : va_W) (post : UInt64 → Prop) : Option Value → va_W → Prop := fun v w => ∃ r : UInt64, v = some (.double r) ∧ w = w0 ∧ post r
def SR (w0 : va_W) (post : Option Nat → Prop) : Option Value → va_W → Prop := fun v w => ∃ r : Option Nat, v = some (va_rf r) ∧ w = w0 ∧ post r
abbrev QQ (G : GT) (Z : State) (ws0 : va_W) (below : List Frame) (s : State) (args : Array Value) (post : Option Value → va_W → Prop) (rm : Room) : State → Prop := MQ below (QM G Z ws0 s.heap.size post) args s rm.cells rm.slots (va_A ws0 s.heap.size)
abbrev rmz (f n : Nat) : Room := { frames := f, cells := 0, slots := 0, locals := n }
variable {p : Program} {l : Launch} {e : Env} {R : Room} {s : State} {m : MethodId} {args : Array Value} {below : List Frame} {meth : Method} {c : Code} {H : Heap} {locs : List Loc} {cells slots : Nat} {Q : State → Prop} {cc : ByteArray} {pc : Nat} {ls : Array Slot} {rest : List Value}
theorem dcg_lt (hexec : p.tables.exec = Jvm.exec) (hb : c.code = cc) {x y : UInt64} {off : Int} {tgt : Nat} (d1 : decode cc pc = .ok (.dcmp .g, 1)) (d2 : decode cc (pc + 1) = .ok (.ifCond .lt off, 3)) (ht : ((pc + 1 : Nat) : Int) + off = (tgt : Int)) (kt : dL x y → W p l e R s m args below meth c H locs cells slots Q (F0 m tgt ls rest)) (kf : ¬ dL x y → W p l e R s m args below meth c H locs cells slots Q (F0 m (pc + 4) ls rest)) : W p l e R s m args below meth c H locs cells slots Q (F0 m pc ls (.double y :: .double x :: rest)) := by
  refine lv_dcmp hexec hb d1 ?_
  refine lv_if_lt hexec hb d2 ht (fun q => kt ?_) (fun q => kf ?_)
  · unfold dL; revert q; cases FP.dcmp x y with
    | none => decide
    | some o => cases o <;> decide
  · unfold dL; revert q; cases FP.dcmp x y with
    | none => decide
    | some o => cases o <;> decide
theorem dcg_ge (hexec : p.tables.exec = Jvm.exec) (hb : c.code = cc) {x y : UInt64} {off : Int} {tgt : Nat} (d1 : decode cc pc = .ok (.dcmp .g, 1)) (d2 : decode cc (pc + 1) = .ok (.ifCond .ge off, 3)) (ht : ((pc + 1 : Nat) : Int) + off = (tgt : Int)) (kt : ¬ dL x y → W p l e R s m args below meth c H locs cells slots Q (F0 m tgt ls rest)) (kf : dL x y → W p l e R s m args below meth c H locs cells slots Q (F0 m (pc + 4) ls rest)) : W p l e R s m args below meth c H locs cells slots Q (F0 m pc ls (.double y :: .double x :: rest)) := by
  refine lv_dcmp hexec hb d1 ?_
  refine lv_if_ge hexec hb d2 ht (fun q => kt ?_) (fun q => kf ?_)
  · unfold dL; revert q; cases FP.dcmp x y with
    | none => decide
    | some o => cases o <;> decide
  · unfold dL; revert q; cases FP.dcmp x y with
    | none => decide
    | some o => cases o <;> decide
theorem dcg_le (hexec : p.tables.exec = Jvm.exec) (hb : c.code = cc) {x y : UInt64} {off : Int} {tgt : Nat} (d1 : decode cc pc = .ok (.dcmp .g, 1)) (d2 : decode cc (pc + 1) = .ok (.ifCond .le off, 3)) (ht : ((pc + 1 : Nat) : Int) + off = (tgt : Int)) (kt : (dL x y ∨ dE x y) → W p l e R s m args below meth c H locs cells slots Q (F0 m tgt ls rest)) (kf : ¬ (dL x y ∨ dE x y) → W p l e R s m args below meth c H locs cells slots Q (F0 m (pc + 4) ls rest)) : W p l e R s m args below meth c H locs cells slots Q (F0 m pc ls (.double y :: .double x :: rest)) := by
  refine lv_dcmp hexec hb d1 ?_
  refine lv_if_le hexec hb d2 ht (fun q => kt ?_) (fun q => kf ?_)
  · unfold dE dL; revert q; cases FP.dcmp x y with
    | none => decide
    | some o => cases o <;> decide
  · unfold dE dL; revert q; cases FP.dcmp x y with
    | none => decide
    | some o => cases o <;> decide
theorem dcg_gt (hexec : p.tables.exec = Jvm.exec) (hb : c.code = cc) {x y : UInt64} {off : Int} {tgt : Nat} (d1 : decode cc pc = .ok (.dcmp .g, 1)) (d2 : decode cc (pc + 1) = .ok (.ifCond .gt off, 3)) (ht : ((pc + 1 : Nat) : Int) + off = (tgt : Int)) (kt : ¬ (dL x y ∨ dE x y) → W p l e R s m args below meth c H locs cells slots Q (F0 m tgt ls rest)) (kf : (dL x y ∨ dE x y) → W p l e R s m args below meth c H locs cells slots Q (F0 m (pc + 4) ls rest)) : W p l e R s m args below meth c H locs cells slots Q (F0 m pc ls (.double y :: .double x :: rest)) := by
  refine lv_dcmp hexec hb d1 ?_
  refine lv_if_gt hexec hb d2 ht (fun q => kt ?_) (fun q => kf ?_)
  · unfold dE dL; revert q; cases FP.dcmp x y with
    | none => decide
    | some o => cases o <;> decide
  · unfold dE dL; revert q; cases FP.dcmp x y with
    | none => decide
    | some o => cases o <;> decide
theorem dcl_ge (hexec : p.tables.exec = Jvm.exec) (hb : c.code = cc) {x y : UInt64} {off : Int} {tgt : Nat} (d1 : decode cc pc = .ok (.dcmp .l, 1)) (d2 : decode cc (pc + 1) = .ok (.ifCond .ge off, 3)) (ht : ((pc + 1 : Nat) : Int) + off = (tgt : Int)) (kt : (dG x y ∨ dE x y) → W p l e R s m args below meth c H locs cells slots Q (F0 m tgt ls rest)) (kf : ¬ (dG x y ∨ dE x y) → W p l e R s m args below meth c H locs cells slots Q (F0 m (pc + 4) ls rest)) : W p l e R s m args below meth c H locs cells slots Q (F0 m pc ls (.double y :: .double x :: rest)) := by
  refine lv_dcmp hexec hb d1 ?_
  refine lv_if_ge hexec hb d2 ht (fun q => kt ?_) (fun q => kf ?_)
  · unfold dE dG; revert q; cases FP.dcmp x y with
    | none => decide
    | some o => cases o <;> decide
  · unfold dE dG; revert q; cases FP.dcmp x y with
    | none => decide
    | some o => cases o <;> decide
theorem dcl_lt (hexec : p.tables.exec = Jvm.exec) (hb : c.code = cc) {x y : UInt64} {off : Int} {tgt : Nat} (d1 : decode cc pc = .ok (.dcmp .l, 1)) (d2 : decode cc (pc + 1) = .ok (.ifCond .lt off, 3)) (ht : ((pc + 1 : Nat) : Int) + off = (tgt : Int)) (kt : ¬ (dG x y ∨ dE x y) → W p l e R s m args below meth c H locs cells slots Q (F0 m tgt ls rest)) (kf : (dG x y ∨ dE x y) → W p l e R s m args below meth c H locs cells slots Q (F0 m (pc + 4) ls rest)) : W p l e R s m args below meth c H locs cells slots Q (F0 m pc ls (.double y :: .double x :: rest)) := by
  refine lv_dcmp hexec hb d1 ?_
  refine lv_if_lt hexec hb d2 ht (fun q => kt ?_) (fun q => kf ?_)
  · unfold dE dG; revert q; cases FP.dcmp x y with
    | none => decide
    | some o => cases o <;> decide
  · unfold dE dG; revert q; cases FP.dcmp x y with
    | none => decide
    | some o => cases o <;> decide
theorem dcl_gt (hexec : p.tables.exec = Jvm.exec) (hb : c.code = cc) {x y : UInt64} {off : Int} {tgt : Nat} (d1 : decode cc pc = .ok (.dcmp .l, 1)) (d2 : decode cc (pc + 1) = .ok (.ifCond .gt off, 3)) (ht : ((pc + 1 : Nat) : Int) + off = (tgt : Int)) (kt : dG x y → W p l e R s m args below meth c H locs cells slots Q (F0 m tgt ls rest)) (kf : ¬ dG x y → W p l e R s m args below meth c H locs cells slots Q (F0 m (pc + 4) ls rest)) : W p l e R s m args below meth c H locs cells slots Q (F0 m pc ls (.double y :: .double x :: rest)) := by
  refine lv_dcmp hexec hb d1 ?_
  refine lv_if_gt hexec hb d2 ht (fun q => kt ?_) (fun q => kf ?_)
  · unfold dG; revert q; cases FP.dcmp x y with
    | none => decide
    | some o => cases o <;> decide
  · unfold dG; revert q; cases FP.dcmp x y with
    | none => decide
    | some o => cases o <;> decide
theorem dcl_le (hexec : p.tables.exec = Jvm.exec) (hb : c.code = cc) {x y : UInt64} {off : Int} {tgt : Nat} (d1 : decode cc pc = .ok (.dcmp .l, 1)) (d2 : decode cc (pc + 1) = .ok (.ifCond .le off, 3)) (ht : ((pc + 1 : Nat) : Int) + off = (tgt : Int)) (kt : ¬ dG x y → W p l e R s m args below meth c H locs cells slots Q (F0 m tgt ls rest)) (kf : dG x y → W p l e R s m args below meth c H locs cells slots Q (F0 m (pc + 4) ls rest)) : W p l e R s m args below meth c H locs cells slots Q (F0 m pc ls (.double y :: .double x :: rest)) := by
  refine lv_dcmp hexec hb d1 ?_
  refine lv_if_le hexec hb d2 ht (fun q => kt ?_) (fun q => kf ?_)
  · unfold dG; revert q; cases FP.dcmp x y with
    | none => decide
    | some o => cases o <;> decide
  · unfold dG; revert q; cases FP.dcmp x y with
    | none => decide
    | some o => cases o <;> decide
theorem dcl_eq (hexec : p.tables.exec = Jvm.exec) (hb : c.code = cc) {x y : UInt64} {off : Int} {tgt : Nat} (d1 : decode cc pc = .ok (.dcmp .l, 1)) (d2 : decode cc (pc + 1) = .ok (.ifCond .eq off, 3)) (ht : ((pc + 1 : Nat) : Int) + off = (tgt : Int)) (kt : dE x y → W p l e R s m args below meth c H locs cells slots Q (F0 m tgt ls rest)) (kf : ¬ dE x y → W p l e R s m args below meth c H locs cells slots Q (F0 m (pc + 4) ls rest)) : W p l e R s m args below meth c H locs cells slots Q (F0 m pc ls (.double y :: .double x :: rest)) := by
  refine lv_dcmp hexec hb d1 ?_
  refine lv_if_eq hexec hb d2 ht (fun q => kt ?_) (fun q => kf ?_)
  · unfold dE; revert q; cases FP.dcmp x y with
    | none => decide
    | some o => cases o <;> decide
  · unfold dE; revert q; cases FP.dcmp x y with
    | none => decide
    | some o => cases o <;> decide
theorem dcl_ne (hexec : p.tables.exec = Jvm.exec) (hb : c.code = cc) {x y : UInt64} {off : Int} {tgt : Nat} (d1 : decode cc pc = .ok (.dcmp .l, 1)) (d2 : decode cc (pc + 1) = .ok (.ifCond .ne off, 3)) (ht : ((pc + 1 : Nat) : Int) + off = (tgt : Int)) (kt : ¬ dE x y → W p l e R s m args below meth c H locs cells slots Q (F0 m tgt ls rest)) (kf : dE x y → W p l e R s m args below meth c H locs cells slots Q (F0 m (pc + 4) ls rest)) : W p l e R s m args below meth c H locs cells slots Q (F0 m pc ls (.double y :: .double x :: rest)) := by
  refine lv_dcmp hexec hb d1 ?_
  refine lv_if_ne hexec hb d2 ht (fun q => kt ?_) (fun q => kf ?_)
  · unfold dE; revert q; cases FP.dcmp x y with
    | none => decide
    | some o => cases o <;> decide
  · unfold dE; revert q; cases FP.dcmp x y with
    | none => decide
    | some o => cases o <;> decide
end FORMS
