section JDK
variable {p : Program} {l : Launch} {e : Env} {R : Room} {s : State} {m : MethodId} {args : Array Value} {below : List Frame} {meth : Method} {c : Code} {H : Heap} {locs : List Loc} {cells slots : Nat} {Q : State → Prop}
variable {cc : ByteArray} {pc nL : Nat} {ls : Array Slot} {rest : List Value} {own : String} {a idx : Nat} {lv : List (Nat × Value)}
theorem twx_max : Cond.code Lib.MathLoose.max_long.x Lib.MathLoose.max_long.code 4 (some .long) ∈ wT := wT_mem (n := 422) (by decide +kernel) rfl
theorem twx_min : Cond.code Lib.MathLoose.min_long.x Lib.MathLoose.min_long.code 4 (some .long) ∈ wT := wT_mem (n := 441) (by decide +kernel) rfl
theorem o_init (F : CX p m c cc nL s args own) (hl : lv_has ls nL lv) (h1 : Cond.methodLink own idx objectInit ∈ wT) (hdg : decode cc pc = .ok (.invokespecial idx, 3)) (hR1 : 1 ≤ R.frames) (hR2 : (rest.map fun v => v.category).sum + 12 ≤ R.locals)
    (kk : W p l e R s m args below meth c H locs cells slots Q (F0 m (pc + 3) ls rest)) : W p l e R s m args below meth c H locs cells slots Q (F0 m pc ls (.ref a :: rest)) :=
  W.objInit F.1 F.2.1 F.2.2.2.1 (F.2.2.2.2 _ h1) (F.2.2.2.2 _ twi_objectInit) (F.2.2.2.2 _ two_objectInit) rfl (by rw [F.2.2.1]; exact hl.1) rfl hdg hR1 (by show 2 * 0 + _ + 12 ≤ _; omega) kk
theorem mx_l (F : CX p m c cc nL s args own) (hl : lv_has ls nL lv) (h1 : Cond.methodLink own idx Lib.MathLoose.max_long.x ∈ wT) {x y : Int64} (hdg : decode cc pc = .ok (.invokestatic idx, 3)) (hR1 : 1 ≤ R.frames) (hR2 : (rest.map fun v => v.category).sum + 15 ≤ R.locals) (hc : cells ≤ R.cells) (hs : slots ≤ R.slots)
    (kk : W p l e R s m args below meth c H locs cells slots Q (F0 m (pc + 3) ls (.long (if y < x then x else y) :: rest))) : W p l e R s m args below meth c H locs cells slots Q (F0 m pc ls (.long y :: .long x :: rest)) :=
  va_mmax_long F.1 F.2.1 (by rw [F.2.2.1]; exact hl.1.symm) F.2.2.2.1 (F.2.2.2.2 _ h1) (F.2.2.2.2 _ twi_yJ9_max_f86c9) (F.2.2.2.2 _ twn_RJ9) (F.2.2.2.2 _ twx_max) hR1 hR2 hc hs hdg kk
theorem mn_l (F : CX p m c cc nL s args own) (hl : lv_has ls nL lv) (h1 : Cond.methodLink own idx Lib.MathLoose.min_long.x ∈ wT) {x y : Int64} (hdg : decode cc pc = .ok (.invokestatic idx, 3)) (hR1 : 1 ≤ R.frames) (hR2 : (rest.map fun v => v.category).sum + 15 ≤ R.locals) (hc : cells ≤ R.cells) (hs : slots ≤ R.slots)
    (kk : W p l e R s m args below meth c H locs cells slots Q (F0 m (pc + 3) ls (.long (if y < x then y else x) :: rest))) : W p l e R s m args below meth c H locs cells slots Q (F0 m pc ls (.long y :: .long x :: rest)) :=
  va_mmin_long F.1 F.2.1 (by rw [F.2.2.1]; exact hl.1.symm) F.2.2.2.1 (F.2.2.2.2 _ h1) (F.2.2.2.2 _ twi_yJ9_min_f86c9) (F.2.2.2.2 _ twn_RJ9) (F.2.2.2.2 _ twx_min) hR1 hR2 hc hs hdg kk
end JDK
