/-! ===== the long field, while RoomBorn is made ===== -/
theorem wLI : ∀ j, j < 80 → j ≠ 0 → (shC j).1 = 0 → ∀ t ∈ kdI (shC j).2, t ≠ 1 := by decide +kernel
theorem uLI : ∀ j, (kdI 6)[j]? = some 1 → j = 9 := u1_of (by decide +kernel)
section FGL
variable {p : Program} {l : Launch} {e : Env} {R : Room} {s : State} {m : MethodId} {args : Array Value} {below : List Frame} {meth : Method} {c : Code} {H : Heap} {locs : List Loc} {cells slots : Nat} {Q : State → Prop}
variable {cc : ByteArray} {pc nL : Nat} {ls : Array Slot} {rest st0 : List Value} {Ts : List Cond} {own : String}
variable {D : va_G} {cy : Nat → ClassId} {ad : Nat → Nat} {rf : Nat → Nat → Option Nat} {N : Nat} {A : Nat → Prop} {M : Mm}
theorem fg_putL (S : CallFix p m c cc nL s args Ts own) (hK : va_K D vwCl (tysV cy) s) (hJ : Inj ad N) (hA : ∀ k, k < N → A (ad k)) {index : Nat} (hin : ∀ w ∈ u_ws RX6 TX6 10, w ∈ Ts) (h0 : 0 < N) (h80 : N ≤ 80) (hlink : (Cond.fieldLink own index RX6 (TX6 9).2.1 (TX6 9).2.2.1).before args s = true) {h : Nat} {v : Int64} (hh : ad 0 = h) (hW : WSt D cy ad kdI shC rf N A M s.heap H locs) (hdg : decode cc pc = .ok (.putfield index, 3))
    (kk : ∀ (H1 : Heap) (locs1 : List Loc), WSt D cy ad kdI shC rf N A (wL M v) s.heap H1 locs1 → W p l e R s m args below meth c H1 locs1 cells slots Q (F0 m (pc + 3) ls rest)) : W p l e R s m args below meth c H locs cells slots Q (F0 m pc ls (.long v :: .ref h :: rest)) := by
  subst hh
  exact fl_put S hK hJ hA tyX6 tyX6_ok nmX6 hin rfl h0 (show shC 0 = (0, 6) from rfl) 9 (by decide) hlink (fun _ h9 => h9) rfl (ty := .long) rfl rfl rfl (wL M v) (by decide) (fvs_setL _ rfl uLI) (fun j hj hn => cof_wL (wLI j (by omega) hn)) hW hdg kk
end FGL
