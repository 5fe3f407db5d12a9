/-! ===== rows for constructors ===== -/
section GR2
variable {D : va_G} {cy : Nat → ClassId} {ad : Nat → Nat} {kd : Nat → List Nat} {sh : Nat → Nat × Nat} {rf rf' : Nat → Nat → Option Nat} {N : Nat} {A : Nat → Prop} {M : Mm} {a : Nat}
theorem upR_v (rf : Nat → Nat → Option Nat) (a k b : Nat) : upR rf a k b a k = some b := if_pos ⟨rfl, rfl⟩
theorem upR_o (rf : Nat → Nat → Option Nat) (a k b : Nat) {x y : Nat} (h : x ≠ a ∨ y ≠ k) : upR rf a k b x y = rf x y := if_neg (by omega)
theorem fvs_rf (h : ∀ y, rf' a y = rf a y) : ∀ (ts : List Nat) (i : Nat), fvs ad rf' M a i ts = fvs ad rf M a i ts
  | [], _ => rfl
  | t :: ts, i => by
    show fvl ad rf' M a i t :: _ = fvl ad rf M a i t :: _
    rw [fvs_rf h ts (i + 1)]
    congr 1
    unfold fvl
    rw [h i]
theorem cof_rf (h : ∀ y, rf' a y = rf a y) : cof cy ad kd sh rf' M a = cof cy ad kd sh rf M a := by
  unfold cof
  rw [fvs_rf h, show (fun j => (rf' a j).map ad) = (fun j => (rf a j).map ad) from funext fun j => by rw [h j]]
theorem fvs_upR {ts : List Nat} {k b : Nat} (h : ts[k]? = some 2) : (fvs ad rf M a 0 ts).set k (.ref (ad b)) = fvs ad (upR rf a k b) M a 0 ts := by
  refine fvs_ext ad rf (upR rf a k b) M M a _ k ts 0 (fun j t hj => ?_)
  rw [Nat.zero_add]
  by_cases e : j = k
  · subst e
    rw [h] at hj
    cases hj
    rw [if_pos rfl]
    unfold fvl
    rw [if_neg (by decide), if_neg (by decide), if_pos rfl, upR_v]
    rfl
  · rw [if_neg e]
    unfold fvl
    rw [upR_o _ _ _ _ (Or.inr e)]
theorem D_J {cf : Nat → va_E} (h : va_D A (wsF ad cf N)) : Inj ad N := fun i j hi hj e => h.1 i j _ _ (wsF_get hi) (wsF_get hj) e
theorem D_A {cf : Nat → va_E} (h : va_D A (wsF ad cf N)) : ∀ k, k < N → A (ad k) := fun k hk => h.2 k _ (wsF_get hk)
end GR2
section FG2
variable {p : Program} {l : Launch} {e : Env} {R : Room} {s : State} {m : MethodId} {args : Array Value} {below : List Frame} {meth : Method} {c : Code} {H : Heap} {locs : List Loc} {cells slots : Nat} {Q : State → Prop}
variable {cc : ByteArray} {pc nL : Nat} {ls : Array Slot} {rest st0 : List Value} {Ts : List Cond} {own : String}
variable {D : va_G} {cy : Nat → ClassId} {ad : Nat → Nat} {kd : Nat → List Nat} {sh : Nat → Nat × Nat} {rf : Nat → Nat → Option Nat} {N : Nat} {A : Nat → Prop} {M : Mm} {a : Nat}
/-- a reference into a final field, in a constructor -/
theorem fg_putF (S : CallFix p m c cc nL s args Ts own) (hK : va_K D vwCl (tysV cy) s) (hJ : Inj ad N) (hA : ∀ k, k < N → A (ad k)) (hinit : meth.name = "<init>") {C ref : String} {T : u_T} {NF ci index : Nat} (ty0 : Nat → FieldType) (hty : ∀ k, k < NF → parseFieldDescriptor (T k).2.2.1 = some (ty0 k)) (hnm : ∀ a, a < NF → ∀ b, b < NF → a ≠ b → (T a).2.1 ≠ (T b).2.1) (hin : ∀ w ∈ u_ws C T NF, w ∈ Ts) (hc : vwCl[ci]? = some (C, T, NF)) (ha : a < N) (hsh : sh a = (0, ci)) (k : Nat) (hk : k < NF) (hlink : (Cond.fieldLink own index ref (T k).2.1 (T k).2.2.1).before args s = true) (hsame : ∀ x, s.fieldFound? (T k).1 (T k).2.1 (T k).2.2.1 = some x → s.fieldFound? ref (T k).2.1 (T k).2.2.1 = some x) (hfin : (T k).2.2.2 = true) (hdecl : (T k).1 = own) {ty : FieldType} {h v b : Nat} (hh : ad a = h) (hv : ad b = v) (hd : parseFieldDescriptor (T k).2.2.1 = some ty) (hn : narrow ty (.ref v) = .ref v) (hfit : fits ty (.ref v) = true)
    (hkd : (kd ci)[k]? = some 2) (hW : WSt D cy ad kd sh rf N A M s.heap H locs) (hdg : decode cc pc = .ok (.putfield index, 3))
    (kk : ∀ (H1 : Heap) (locs1 : List Loc), WSt D cy ad kd sh (upR rf a k b) N A M s.heap H1 locs1 → W p l e R s m args below meth c H1 locs1 cells slots Q (F0 m (pc + 3) ls rest)) : W p l e R s m args below meth c H locs cells slots Q (F0 m pc ls (.ref v :: .ref h :: rest)) := by
  subst hh
  subst hv
  have hlen : k < (kd ci).length := (List.getElem?_eq_some_iff.mp hkd).1
  refine va_putF S.1 S.2.1 S.2.2.2.2 hin ty0 hty hnm S.2.2.2.1 hK hW.1 (wsF_D hJ hA) hW.2 a (by rw [wsF_get ha, cof_obj hsh]) hc k hk hlink hsame hfin hinit hdecl hd hn hfit (by rw [fvs_len]; exact hlen) hdg (fun H1 locs1 hP hD hS => kk H1 locs1 ⟨?_, hS⟩)
  rw [wsF_set (cg := cof cy ad kd sh (upR rf a k b) M) (by rw [cof_obj hsh, fvs_upR hkd]) (fun j _ hj => cof_rf (fun y => upR_o _ _ _ _ (Or.inl hj)))] at hP
  exact hP
/-- a reference into a field that isn't final -/
theorem fg_putR (S : CallFix p m c cc nL s args Ts own) (hK : va_K D vwCl (tysV cy) s) (hJ : Inj ad N) (hA : ∀ k, k < N → A (ad k)) {C ref : String} {T : u_T} {NF ci index : Nat} (ty0 : Nat → FieldType) (hty : ∀ k, k < NF → parseFieldDescriptor (T k).2.2.1 = some (ty0 k)) (hnm : ∀ a, a < NF → ∀ b, b < NF → a ≠ b → (T a).2.1 ≠ (T b).2.1) (hin : ∀ w ∈ u_ws C T NF, w ∈ Ts) (hc : vwCl[ci]? = some (C, T, NF)) (ha : a < N) (hsh : sh a = (0, ci)) (k : Nat) (hk : k < NF) (hlink : (Cond.fieldLink own index ref (T k).2.1 (T k).2.2.1).before args s = true) (hsame : ∀ x, s.fieldFound? (T k).1 (T k).2.1 (T k).2.2.1 = some x → s.fieldFound? ref (T k).2.1 (T k).2.2.1 = some x) (hfin : (T k).2.2.2 = false) {ty : FieldType} {h v b : Nat} (hh : ad a = h) (hv : ad b = v) (hd : parseFieldDescriptor (T k).2.2.1 = some ty) (hn : narrow ty (.ref v) = .ref v) (hfit : fits ty (.ref v) = true)
    (hkd : (kd ci)[k]? = some 2) (hW : WSt D cy ad kd sh rf N A M s.heap H locs) (hdg : decode cc pc = .ok (.putfield index, 3))
    (kk : ∀ (H1 : Heap) (locs1 : List Loc), WSt D cy ad kd sh (upR rf a k b) N A M s.heap H1 locs1 → W p l e R s m args below meth c H1 locs1 cells slots Q (F0 m (pc + 3) ls rest)) : W p l e R s m args below meth c H locs cells slots Q (F0 m pc ls (.ref v :: .ref h :: rest)) := by
  subst hh
  subst hv
  have hlen : k < (kd ci).length := (List.getElem?_eq_some_iff.mp hkd).1
  refine va_put S.1 S.2.1 S.2.2.2.2 hin ty0 hty hnm S.2.2.2.1 hK hW.1 (wsF_D hJ hA) hW.2 a (by rw [wsF_get ha, cof_obj hsh]) hc k hk hlink hsame hfin hd hn hfit (by rw [fvs_len]; exact hlen) hdg (fun H1 locs1 hP hD hS => kk H1 locs1 ⟨?_, hS⟩)
  rw [wsF_set (cg := cof cy ad kd sh (upR rf a k b) M) (by rw [cof_obj hsh, fvs_upR hkd]) (fun j _ hj => cof_rf (fun y => upR_o _ _ _ _ (Or.inl hj)))] at hP
  exact hP
/-- a number into a field -/
theorem fg_putI (S : CallFix p m c cc nL s args Ts own) (hK : va_K D vwCl (tysV cy) s) (hJ : Inj ad N) (hA : ∀ k, k < N → A (ad k)) {C ref : String} {T : u_T} {NF ci index : Nat} (ty0 : Nat → FieldType) (hty : ∀ k, k < NF → parseFieldDescriptor (T k).2.2.1 = some (ty0 k)) (hnm : ∀ a, a < NF → ∀ b, b < NF → a ≠ b → (T a).2.1 ≠ (T b).2.1) (hin : ∀ w ∈ u_ws C T NF, w ∈ Ts) (hc : vwCl[ci]? = some (C, T, NF)) (ha : a < N) (hsh : sh a = (0, ci)) (k : Nat) (hk : k < NF) (hlink : (Cond.fieldLink own index ref (T k).2.1 (T k).2.2.1).before args s = true) (hsame : ∀ x, s.fieldFound? (T k).1 (T k).2.1 (T k).2.2.1 = some x → s.fieldFound? ref (T k).2.1 (T k).2.2.1 = some x) (hfin : (T k).2.2.2 = false) {ty : FieldType} {h : Nat} {v : Int32} (hh : ad a = h) (hd : parseFieldDescriptor (T k).2.2.1 = some ty) (hn : narrow ty (.int v) = .int v) (hfit : fits ty (.int v) = true)
    (hkd : (kd ci)[k]? = some 0) (hW : WSt D cy ad kd sh rf N A M s.heap H locs) (hdg : decode cc pc = .ok (.putfield index, 3))
    (kk : ∀ (H1 : Heap) (locs1 : List Loc), WSt D cy ad kd sh rf N A (wI M a k v) s.heap H1 locs1 → W p l e R s m args below meth c H1 locs1 cells slots Q (F0 m (pc + 3) ls rest)) : W p l e R s m args below meth c H locs cells slots Q (F0 m pc ls (.int v :: .ref h :: rest)) := by
  subst hh
  exact fl_put S hK hJ hA ty0 hty hnm hin hc ha hsh k hk hlink hsame hfin hd hn hfit (wI M a k v) (List.getElem?_eq_some_iff.mp hkd).1 (fvs_setI _ _ _ _ _ _ _ hkd) (fun j _ hj => cof_wI_ne hj) hW hdg kk
end FG2
/-- what a constructor changes: the world's cells, and what it makes -/
def AG (ad : Nat → Nat) (N sz : Nat) : Nat → Prop := fun q => AV ad N q ∨ sz ≤ q
/-- the class's kinds while it is made: told and draft are references like others -/
def kdI : Nat → List Nat := fun c => if c = 6 then [2, 2, 2, 2, 2, 2, 2, 2, 2, 1] else kdV c
theorem kdI_lt : ∀ c t, t ∈ kdI c → t < 3 := by
  intro c t h
  unfold kdI at h
  split at h
  · revert t
    decide
  · next q =>
    unfold kdV at h
    split at h <;> first | (exact absurd rfl q) | (revert t; decide)
abbrev PcG (As : List Value) (D : va_G) (cy : Nat → ClassId) (ad : Nat → Nat) (sh : Nat → Nat × Nat) (rf : Nat → Nat → Option Nat) (N : Nat) (M : Mm) (sz : Nat) : Array Value → State → Prop :=
  va_Pc As (fun U => U.heap.size = sz ∧ va_P D vwCl (wsF ad (cof cy ad kdI sh rf M) N) U.heap ∧ va_K D vwCl (tysV cy) U ∧ Nst U)
abbrev QvG (D : va_G) (cy : Nat → ClassId) (ad : Nat → Nat) (sh : Nat → Nat × Nat) (rf : Nat → Nat → Option Nat) (N N' : Nat) (M : Mm) (sz : Nat) : Array Value → State → Outcome → State → Prop :=
  va_Qv (fun ad' : Nat → Nat => ∀ k, k < N → ad' k = ad k) (fun ad' t => va_P D vwCl (wsF ad' (cof cy ad' kdI sh rf M) N') t.heap ∧ va_D (AG ad N sz) (wsF ad' (cof cy ad' kdI sh rf M) N')) (AG ad N sz)
