/-! ===== the law: two worlds side by side ===== -/
abbrev LawE (p : Program) (s : State) (m : MethodId) (c : Code) (b L : Nat) (xs : Nat → Int32) (D : va_G) (cy : Nat → ClassId) (adc adm : Nat → Nat) : Prop :=
  CallFix p m c code 4 s #[Value.ref b] lw_tbl R_law ∧ va_K D vwCl (tysV cy) s ∧ Nst s ∧ va_X b L xs s s.heap ∧ b < s.heap.size ∧ Inj adc 80 ∧ Inj adm 15 ∧ (∀ k, k < 80 → (fun q : Nat => s.heap.size ≤ q) (adc k)) ∧ (∀ k, k < 15 → (fun q : Nat => s.heap.size ≤ q) (adm k)) ∧ ∀ i j, i < 80 → j < 15 → adc i ≠ adm j
abbrev LW (s : State) (D : va_G) (cy : Nat → ClassId) (adc adm : Nat → Nat) (Mc Md : Mm) (H : Heap) (locs : List Loc) : Prop :=
  va_P D vwCl (wsF adc (cof cy adc kdV shC rfC Mc) 80) H ∧ va_P D vwCl (wsF adm (cof cy adm kdV shM rfM Md) 15) H ∧ va_S (fun q : Nat => s.heap.size ≤ q) s.heap H locs
theorem tw_kept {D : va_G} {ad1 ad2 : Nat → Nat} {cf2 : Nat → va_E} {N1 N2 : Nat} {H H1 : Heap} (h2 : va_P D vwCl (wsF ad2 cf2 N2) H) (hk : ∀ q : Nat, q < H.size → ¬ AV ad1 N1 q → H1[q]? = H[q]?) (ap : ∀ i j, i < N1 → j < N2 → ad1 i ≠ ad2 j) : va_P D vwCl (wsF ad2 cf2 N2) H1 := by
  refine h2.kept (fun k x hx => ?_)
  obtain ⟨hk2, rfl⟩ := wsF_some hx
  refine hk _ ((h2 k _ hx).lt) (fun h => ?_)
  obtain ⟨i, hi, e⟩ := h
  exact ap i k hi hk2 e.symm
section LX
variable {p : Program} {l : Launch} {e : Env} {s : State} {m : MethodId} {below : List Frame} {meth : Method} {c : Code} {H : Heap} {locs : List Loc} {cells slots : Nat} {Q : State → Prop}
variable {b L : Nat} {xs : Nat → Int32} {D : va_G} {cy : Nat → ClassId} {adc adm : Nat → Nat} {Mc Mc' Md Md' : Mm}
variable {pc : Nat} {ls : Array Slot} {rest st0 As : List Value}
variable {y : MethodName} {bytes : ByteArray} {maxL n idx : Nat} {ws : List Cond} {rm : Room} {r : Int32} {r8 : Int64}
theorem lx_I (E : LawE p s m c b L xs D cy adc adm) (hM : Met l y ws rm (PcF (.ref (adc 0) :: As) D cy adc kdV shC rfC 80 Mc) (QcI r D cy adc kdV shC rfC 80 Mc') 0 0 (AV adc 80)) (cw : CallW room_1 s #[Value.ref b] R_law RX6 idx y bytes maxL (some .int) ws rm 0 0 n) (hn : As.length = n) (hst : st0 = As.reverse ++ .ref (adc 0) :: rest) (hr8 : (rest.map fun v => v.category).sum ≤ 8) (hls : ls.size = 4) (hdg : decode code pc = .ok (.invokevirtual idx, 3)) (hf : cells ≤ room_1.cells ∧ slots ≤ room_1.slots) (hW : LW s D cy adc adm Mc Md H locs)
    (kk : ∀ (H1 : Heap) (locs1 : List Loc), LW s D cy adc adm Mc' Md H1 locs1 → W p l e room_1 s m #[Value.ref b] below meth c H1 locs1 cells slots Q (F0 m (pc + 3) ls (.int r :: rest))) : W p l e room_1 s m #[Value.ref b] below meth c H locs cells slots Q (F0 m pc ls st0) := by
  obtain ⟨S, hK, hN, hX, hbl, j1, j2, a1, a2, ap⟩ := E
  obtain ⟨h1, h2, hS⟩ := hW
  refine va_calli (fl_runV S hK hN hM cw (ci := 6) (NF := 10) rfl (by decide) (show shC 0 = (0, 6) from rfl) hn hls hst hr8 hdg hf ⟨h1, hS⟩) hS (fun q _ h => fl_A a1 q h) (fl_A a1) (fun r1 u t H1 locs1 ht _ hw hB _ hk hS1 => ?_)
  subst hw
  exact kk H1 locs1 ⟨by rw [← ht]; exact hB, tw_kept h2 hk ap, hS1⟩
theorem ly_I (E : LawE p s m c b L xs D cy adc adm) (hM : Met l y ws rm (PcF (.ref (adm 0) :: As) D cy adm kdV shM rfM 15 Md) (QcI r D cy adm kdV shM rfM 15 Md') 0 0 (AV adm 15)) (cw : CallW room_1 s #[Value.ref b] R_law RX7 idx y bytes maxL (some .int) ws rm 0 0 n) (hn : As.length = n) (hst : st0 = As.reverse ++ .ref (adm 0) :: rest) (hr8 : (rest.map fun v => v.category).sum ≤ 8) (hls : ls.size = 4) (hdg : decode code pc = .ok (.invokevirtual idx, 3)) (hf : cells ≤ room_1.cells ∧ slots ≤ room_1.slots) (hW : LW s D cy adc adm Mc Md H locs)
    (kk : ∀ (H1 : Heap) (locs1 : List Loc), LW s D cy adc adm Mc Md' H1 locs1 → W p l e room_1 s m #[Value.ref b] below meth c H1 locs1 cells slots Q (F0 m (pc + 3) ls (.int r :: rest))) : W p l e room_1 s m #[Value.ref b] below meth c H locs cells slots Q (F0 m pc ls st0) := by
  obtain ⟨S, hK, hN, hX, hbl, j1, j2, a1, a2, ap⟩ := E
  obtain ⟨h1, h2, hS⟩ := hW
  refine va_calli (fl_runV S hK hN hM cw (ci := 7) (NF := 25) rfl (by decide) (show shM 0 = (0, 7) from rfl) hn hls hst hr8 hdg hf ⟨h2, hS⟩) hS (fun q _ h => fl_A a2 q h) (fl_A a2) (fun r1 u t H1 locs1 ht _ hw hB _ hk hS1 => ?_)
  subst hw
  exact kk H1 locs1 ⟨tw_kept h1 hk (fun i j hi hj h => ap j i hj hi h.symm), by rw [← ht]; exact hB, hS1⟩
theorem lx_L (E : LawE p s m c b L xs D cy adc adm) (hM : Met l y ws rm (PcF (.ref (adc 0) :: As) D cy adc kdV shC rfC 80 Mc) (QcL r8 D cy adc kdV shC rfC 80 Mc') 0 0 (AV adc 80)) (cw : CallW room_1 s #[Value.ref b] R_law RX6 idx y bytes maxL (some .long) ws rm 0 0 n) (hn : As.length = n) (hst : st0 = As.reverse ++ .ref (adc 0) :: rest) (hr8 : (rest.map fun v => v.category).sum ≤ 8) (hls : ls.size = 4) (hdg : decode code pc = .ok (.invokevirtual idx, 3)) (hf : cells ≤ room_1.cells ∧ slots ≤ room_1.slots) (hW : LW s D cy adc adm Mc Md H locs)
    (kk : ∀ (H1 : Heap) (locs1 : List Loc), LW s D cy adc adm Mc' Md H1 locs1 → W p l e room_1 s m #[Value.ref b] below meth c H1 locs1 cells slots Q (F0 m (pc + 3) ls (.long r8 :: rest))) : W p l e room_1 s m #[Value.ref b] below meth c H locs cells slots Q (F0 m pc ls st0) := by
  obtain ⟨S, hK, hN, hX, hbl, j1, j2, a1, a2, ap⟩ := E
  obtain ⟨h1, h2, hS⟩ := hW
  refine va_calll (fl_runV S hK hN hM cw (ci := 6) (NF := 10) rfl (by decide) (show shC 0 = (0, 6) from rfl) hn hls hst hr8 hdg hf ⟨h1, hS⟩) hS (fun q _ h => fl_A a1 q h) (fl_A a1) (fun r1 u t H1 locs1 ht _ hw hB _ hk hS1 => ?_)
  subst hw
  exact kk H1 locs1 ⟨by rw [← ht]; exact hB, tw_kept h2 hk ap, hS1⟩
theorem ly_L (E : LawE p s m c b L xs D cy adc adm) (hM : Met l y ws rm (PcF (.ref (adm 0) :: As) D cy adm kdV shM rfM 15 Md) (QcL r8 D cy adm kdV shM rfM 15 Md') 0 0 (AV adm 15)) (cw : CallW room_1 s #[Value.ref b] R_law RX7 idx y bytes maxL (some .long) ws rm 0 0 n) (hn : As.length = n) (hst : st0 = As.reverse ++ .ref (adm 0) :: rest) (hr8 : (rest.map fun v => v.category).sum ≤ 8) (hls : ls.size = 4) (hdg : decode code pc = .ok (.invokevirtual idx, 3)) (hf : cells ≤ room_1.cells ∧ slots ≤ room_1.slots) (hW : LW s D cy adc adm Mc Md H locs)
    (kk : ∀ (H1 : Heap) (locs1 : List Loc), LW s D cy adc adm Mc Md' H1 locs1 → W p l e room_1 s m #[Value.ref b] below meth c H1 locs1 cells slots Q (F0 m (pc + 3) ls (.long r8 :: rest))) : W p l e room_1 s m #[Value.ref b] below meth c H locs cells slots Q (F0 m pc ls st0) := by
  obtain ⟨S, hK, hN, hX, hbl, j1, j2, a1, a2, ap⟩ := E
  obtain ⟨h1, h2, hS⟩ := hW
  refine va_calll (fl_runV S hK hN hM cw (ci := 7) (NF := 25) rfl (by decide) (show shM 0 = (0, 7) from rfl) hn hls hst hr8 hdg hf ⟨h2, hS⟩) hS (fun q _ h => fl_A a2 q h) (fl_A a2) (fun r1 u t H1 locs1 ht _ hw hB _ hk hS1 => ?_)
  subst hw
  exact kk H1 locs1 ⟨tw_kept h1 hk (fun i j hi hj h => ap j i hj hi h.symm), by rw [← ht]; exact hB, hS1⟩
end LX
