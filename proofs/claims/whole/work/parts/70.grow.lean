/-! ===== worlds that grow: constructors ===== -/
def upA (ad : Nat → Nat) (N q : Nat) : Nat → Nat := fun k => if k = N then q else ad k
theorem upA_v (ad : Nat → Nat) (N q : Nat) : upA ad N q N = q := if_pos rfl
theorem upA_k (ad : Nat → Nat) (N q : Nat) {k : Nat} (h : k ≠ N) : upA ad N q k = ad k := if_neg h
section GR
variable {D : va_G} {cy : Nat → ClassId} {ad ad' : Nat → Nat} {kd : Nat → List Nat} {sh : Nat → Nat × Nat} {rf : Nat → Nat → Option Nat} {N : Nat} {A : Nat → Prop} {M : Mm} {a : Nat}
theorem fvs_ad (hr : ∀ k b, rf a k = some b → ad' b = ad b) : ∀ (ts : List Nat) (i : Nat), (∀ t, t ∈ ts → t ≠ 3) → (∀ t, t ∈ ts → t ≤ 3) → fvs ad' rf M a i ts = fvs ad rf M a i ts
  | [], _, _, _ => rfl
  | t :: ts, i, h, h3 => by
    have ih := fvs_ad hr ts (i + 1) (fun t ht => h t (List.mem_cons_of_mem _ ht)) (fun t ht => h3 t (List.mem_cons_of_mem _ ht))
    show fvl ad' rf M a i t :: _ = fvl ad rf M a i t :: _
    rw [ih]
    congr 1
    have h0 := h t (List.mem_cons_self ..)
    have h1 := h3 t (List.mem_cons_self ..)
    unfold fvl
    by_cases e0 : t = 0
    · rw [if_pos e0, if_pos e0]
    · by_cases e1 : t = 1
      · rw [if_neg e0, if_neg e0, if_pos e1, if_pos e1]
      · have e2 : t = 2 := by omega
        rw [if_neg e0, if_neg e0, if_neg e1, if_neg e1, if_pos e2, if_pos e2]
        cases e : rf a i with
        | none => rfl
        | some b => rw [Option.map_some, Option.map_some, hr i b e]
theorem cof_ad (hr : ∀ k b, rf a k = some b → ad' b = ad b) (hkd : ∀ c t, t ∈ kd c → t < 3) : cof cy ad' kd sh rf M a = cof cy ad kd sh rf M a := by
  have hf : (fun j => (rf a j).map ad') = (fun j => (rf a j).map ad) := by
    funext j
    cases e : rf a j with
    | none => rfl
    | some b => rw [Option.map_some, Option.map_some, hr j b e]
  unfold cof
  rw [hf, fvs_ad hr _ _ (fun t ht => by have := hkd _ _ ht; omega) (fun t ht => by have := hkd _ _ ht; omega)]
theorem wsF_up {q : Nat} (hkd : ∀ c t, t ∈ kd c → t < 3) (hcl : ∀ a k b, rf a k = some b → b < N) : wsF (upA ad N q) (cof cy (upA ad N q) kd sh rf M) (N + 1) = wsF ad (cof cy ad kd sh rf M) N ++ [(q, cof cy ad kd sh rf M N)] := by
  rw [← wsF_push, upA_v]
  congr 1
  · apply List.map_congr_left
    intro k hk
    have hk' := List.mem_range.mp hk
    rw [upA_k _ _ _ (by omega), cof_ad (fun j b e => upA_k _ _ _ (by have := hcl _ _ _ e; omega)) hkd]
  · rw [cof_ad (fun j b e => upA_k _ _ _ (by have := hcl _ _ _ e; omega)) hkd]
end GR
section FG
variable {p : Program} {l : Launch} {e : Env} {R : Room} {s : State} {m : MethodId} {args : Array Value} {below : List Frame} {meth : Method} {c : Code} {H : Heap} {locs : List Loc} {cells slots : Nat} {Q : State → Prop}
variable {cc : ByteArray} {pc nL : Nat} {ls : Array Slot} {rest st0 : List Value} {Ts : List Cond} {own : String}
variable {D : va_G} {cy : Nat → ClassId} {ad : Nat → Nat} {kd : Nat → List Nat} {sh : Nat → Nat × Nat} {rf : Nat → Nat → Option Nat} {N : Nat} {A : Nat → Prop} {M : Mm} {a : Nat}
theorem fg_newI (S : CallFix p m c cc nL s args Ts own) (hK : va_K D vwCl (tysV cy) s) (harr : (Cond.arrayClass .int).before args s = true) {n : Nat} {z : Int32} (hz : ¬ z < 0) (hzn : z.toNatClampNeg = n) (hsh : sh N = (1, n)) (hM : ∀ j, M.1 N j = 0) (hkd : ∀ c t, t ∈ kd c → t < 3) (hcl : ∀ a k b, rf a k = some b → b < N) (hb : n * componentBytes .int ≤ 536870912) (hA : ∀ q, s.heap.size ≤ q → A q) (hcells : cells + 1 ≤ R.cells) (hslots : slots + n ≤ R.slots) (hW : WSt D cy ad kd sh rf N A M s.heap H locs) (hD : va_D A (wsF ad (cof cy ad kd sh rf M) N)) (hdg : decode cc pc = .ok (.newarray .int, 2))
    (kk : ∀ (q : Nat) (H1 : Heap), WSt D cy (upA ad N q) kd sh rf (N + 1) A M s.heap H1 locs → va_D A (wsF (upA ad N q) (cof cy (upA ad N q) kd sh rf M) (N + 1)) → W p l e R s m args below meth c H1 locs (cells + 1) (slots + n) Q (F0 m (pc + 2) ls (.ref q :: rest))) : W p l e R s m args below meth c H locs cells slots Q (F0 m pc ls (.int z :: rest)) := by
  refine va_newaK (atype := .int) S.1 S.2.1 harr rfl hdg rfl hz hzn hb hcells hslots rfl (fun H1 cA e1 z1 o1 hAr hNm => ?_)
  have hcy : cA = cy 0 := Option.some.inj (hNm.symm.trans (hK.2 0 _ rfl).2)
  have hk : ∀ (k : Nat) (x : Nat × va_E), (wsF ad (cof cy ad kd sh rf M) N)[k]? = some x → H1[x.1]? = H[x.1]? := fun k x hx => o1 x.1 ((hW.1 k x hx).lt)
  refine kk H.size H1 ⟨?_, Nat.le_trans hW.2.1 (by omega), fun x h1 h2 => (o1 x (Nat.lt_of_lt_of_le h1 hW.2.1)).trans (hW.2.2.1 x h1 h2), hW.2.2.2⟩ ?_
  · rw [wsF_up hkd hcl]
    refine (hW.1.kept hk).app (fun k x hx => ?_)
    have hk0 : k < 1 := (List.getElem?_eq_some_iff.mp hx).1
    rw [show k = 0 by omega] at hx
    cases hx
    rw [cof_I hsh]
    show H1[H.size]? = some (vp_cell (cy 0) (n, .inl (M.1 N)))
    rw [e1, hcy, show M.1 N = fun _ => 0 from funext hM]
    rfl
  · rw [wsF_up hkd hcl]
    exact hD.push hW.1 rfl (hA _ hW.2.1)
theorem fg_newZ (S : CallFix p m c cc nL s args Ts own) (hK : va_K D vwCl (tysV cy) s) (harr : (Cond.arrayClass .boolean).before args s = true) {n : Nat} {z : Int32} (hz : ¬ z < 0) (hzn : z.toNatClampNeg = n) (hsh : sh N = (2, n)) (hM : ∀ j, M.1 N j = 0) (hkd : ∀ c t, t ∈ kd c → t < 3) (hcl : ∀ a k b, rf a k = some b → b < N) (hb : n * componentBytes .boolean ≤ 536870912) (hA : ∀ q, s.heap.size ≤ q → A q) (hcells : cells + 1 ≤ R.cells) (hslots : slots + n ≤ R.slots) (hW : WSt D cy ad kd sh rf N A M s.heap H locs) (hD : va_D A (wsF ad (cof cy ad kd sh rf M) N)) (hdg : decode cc pc = .ok (.newarray .boolean, 2))
    (kk : ∀ (q : Nat) (H1 : Heap), WSt D cy (upA ad N q) kd sh rf (N + 1) A M s.heap H1 locs → va_D A (wsF (upA ad N q) (cof cy (upA ad N q) kd sh rf M) (N + 1)) → W p l e R s m args below meth c H1 locs (cells + 1) (slots + n) Q (F0 m (pc + 2) ls (.ref q :: rest))) : W p l e R s m args below meth c H locs cells slots Q (F0 m pc ls (.int z :: rest)) := by
  refine va_newaK (atype := .boolean) S.1 S.2.1 harr rfl hdg rfl hz hzn hb hcells hslots rfl (fun H1 cA e1 z1 o1 hAr hNm => ?_)
  have hcy : cA = cy 1 := Option.some.inj (hNm.symm.trans (hK.2 1 _ rfl).2)
  have hk : ∀ (k : Nat) (x : Nat × va_E), (wsF ad (cof cy ad kd sh rf M) N)[k]? = some x → H1[x.1]? = H[x.1]? := fun k x hx => o1 x.1 ((hW.1 k x hx).lt)
  refine kk H.size H1 ⟨?_, Nat.le_trans hW.2.1 (by omega), fun x h1 h2 => (o1 x (Nat.lt_of_lt_of_le h1 hW.2.1)).trans (hW.2.2.1 x h1 h2), hW.2.2.2⟩ ?_
  · rw [wsF_up hkd hcl]
    refine (hW.1.kept hk).app (fun k x hx => ?_)
    have hk0 : k < 1 := (List.getElem?_eq_some_iff.mp hx).1
    rw [show k = 0 by omega] at hx
    cases hx
    rw [cof_Z hsh]
    show H1[H.size]? = some (vp_cell (cy 1) (n, .inl (M.1 N)))
    rw [e1, hcy, show M.1 N = fun _ => 0 from funext hM]
    rfl
  · rw [wsF_up hkd hcl]
    exact hD.push hW.1 rfl (hA _ hW.2.1)
theorem fg_new (S : CallFix p m c cc nL s args Ts own) (hK : va_K D vwCl (tysV cy) s) {C : String} {T : u_T} {NF ci index : Nat} (hin : ∀ w ∈ u_ws C T NF, w ∈ Ts) (ty : Nat → FieldType) (hty : ∀ k, k < NF → parseFieldDescriptor (T k).2.2.1 = some (ty k)) (hlink : (Cond.classLink own index C).before args s = true) (hinst : (Cond.instantiable C NF).before args s = true) (hini : (Cond.initialized C).before args s = true) (hc : vwCl[ci]? = some (C, T, NF)) (hsh : sh N = (0, ci)) (hfs : ∀ j, j < NF → defaultValue (ty j) = vp_V (fvs ad rf M N 0 (kd ci)) j) (hkd : ∀ c t, t ∈ kd c → t < 3) (hcl : ∀ a k b, rf a k = some b → b < N) (hA : ∀ q, s.heap.size ≤ q → A q) (hcells : cells + 1 ≤ R.cells) (hslots : slots + NF ≤ R.slots) (hW : WSt D cy ad kd sh rf N A M s.heap H locs) (hD : va_D A (wsF ad (cof cy ad kd sh rf M) N)) (hdg : decode cc pc = .ok (.new index, 3))
    (kk : ∀ (q : Nat) (H1 : Heap), WSt D cy (upA ad N q) kd sh rf (N + 1) A M s.heap H1 locs → va_D A (wsF (upA ad N q) (cof cy (upA ad N q) kd sh rf M) (N + 1)) → W p l e R s m args below meth c H1 locs (cells + 1) (slots + NF) Q (F0 m (pc + 3) ls (.ref q :: rest))) : W p l e R s m args below meth c H locs cells slots Q (F0 m pc ls rest) := by
  refine va_new S.1 S.2.1 S.2.2.2.2 hin ty hty S.2.2.2.1 hlink hinst hini hK hW.1 hD hW.2 hA hc hfs hcells hslots hdg (fun q H1 hP' hD' hS' => kk q H1 ⟨?_, hS'⟩ ?_)
  · rw [wsF_up hkd hcl, cof_obj hsh]
    exact hP'
  · rw [wsF_up hkd hcl, cof_obj hsh]
    exact hD'
/-- one more reference -/
def upR (rf : Nat → Nat → Option Nat) (a k b : Nat) : Nat → Nat → Option Nat := fun x y => if x = a ∧ y = k then some b else rf x y
end FG
