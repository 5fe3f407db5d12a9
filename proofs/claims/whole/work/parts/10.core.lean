/-! ===== flat worlds: a cell by its place; what all cells hold by one function of numbers ===== -/
abbrev Mm : Type := (Nat → Nat → Int32) × Int64
def wI (M : Mm) (a k : Nat) (v : Int32) : Mm := (fun b j => if b = a ∧ j = k then v else M.1 b j, M.2)
def wL (M : Mm) (v : Int64) : Mm := (M.1, v)
def wA (M : Mm) (a : Nat) (f : Nat → Int32) : Mm := (fun b => if b = a then f else M.1 b, M.2)
theorem wI_wA (M : Mm) (a k : Nat) (v : Int32) : wI M a k v = wA M a (upd (M.1 a) k v) := by
  unfold wI wA
  refine Prod.ext ?_ rfl
  funext b j
  by_cases hb : b = a
  · subst hb
    by_cases hj : j = k <;> simp [upd, hj]
  · simp [hb]
def fvl (ad : Nat → Nat) (rf : Nat → Nat → Option Nat) (M : Mm) (a k t : Nat) : Value :=
  if t = 0 then .int (M.1 a k) else if t = 1 then .long M.2 else if t = 2 then va_rf ((rf a k).map ad) else .ref (ad (M.1 a k).toNatClampNeg)
def fvs (ad : Nat → Nat) (rf : Nat → Nat → Option Nat) (M : Mm) (a : Nat) : Nat → List Nat → List Value
  | _, [] => []
  | k, t :: ts => fvl ad rf M a k t :: fvs ad rf M a (k + 1) ts
theorem fvs_get (ad : Nat → Nat) (rf : Nat → Nat → Option Nat) (M : Mm) (a : Nat) : ∀ (ts : List Nat) (k i t : Nat), ts[i]? = some t → (fvs ad rf M a k ts)[i]? = some (fvl ad rf M a (k + i) t)
  | [], _, _, _, h => by simp at h
  | u :: ts, k, 0, t, h => by
    cases h
    rfl
  | u :: ts, k, i + 1, t, h => by
    have := fvs_get ad rf M a ts (k + 1) i t (by simpa using h)
    show (fvs ad rf M a (k + 1) ts)[i]? = _
    rw [this, show k + 1 + i = k + (i + 1) by omega]
theorem fvs_len (ad : Nat → Nat) (rf : Nat → Nat → Option Nat) (M : Mm) (a : Nat) : ∀ (ts : List Nat) (k : Nat), (fvs ad rf M a k ts).length = ts.length
  | [], _ => rfl
  | u :: ts, k => by
    show (fvs ad rf M a (k + 1) ts).length + 1 = ts.length + 1
    rw [fvs_len ad rf M a ts (k + 1)]
/-- fields that agree -/
theorem fvs_ext (ad : Nat → Nat) (rf rf' : Nat → Nat → Option Nat) (M M' : Mm) (a : Nat) (v : Value) (i : Nat) : ∀ (ts : List Nat) (k : Nat),
    (∀ j t, ts[j]? = some t → fvl ad rf' M' a (k + j) t = if j = i then v else fvl ad rf M a (k + j) t) → (fvs ad rf M a k ts).set i v = fvs ad rf' M' a k ts
  | [], _, _ => by simp [fvs]
  | u :: ts, k, h => by
    have h0 := h 0 u rfl
    have h1 : ∀ j t, ts[j]? = some t → fvl ad rf' M' a (k + (j + 1)) t = if j + 1 = i then v else fvl ad rf M a (k + (j + 1)) t := fun j t hj => h (j + 1) t (by simpa using hj)
    show (fvl ad rf M a k u :: fvs ad rf M a (k + 1) ts).set i v = fvl ad rf' M' a k u :: fvs ad rf' M' a (k + 1) ts
    cases i with
    | zero =>
      have e := fvs_ext ad rf rf' M M' a v ts.length ts (k + 1) (fun j t hj => by
        have hlt : j < ts.length := (List.getElem?_eq_some_iff.mp hj).1
        rw [if_neg (by omega), show k + 1 + j = k + (j + 1) by omega, h1 j t hj, if_neg (by omega)])
      rw [List.set_eq_of_length_le (by rw [fvs_len]; exact Nat.le_refl _)] at e
      rw [List.set_cons_zero, e]
      congr 1
      simpa using h0.symm
    | succ i =>
      rw [List.set_cons_succ, fvs_ext ad rf rf' M M' a v i ts (k + 1) (fun j t hj => by
        rw [show k + 1 + j = k + (j + 1) by omega, h1 j t hj]
        by_cases e : j = i
        · simp [e]
        · rw [if_neg (by omega), if_neg e])]
      congr 1
      simpa using h0.symm
theorem fvs_setI (ad : Nat → Nat) (rf : Nat → Nat → Option Nat) (M : Mm) (a : Nat) (ts : List Nat) (i : Nat) (x : Int32) (h : ts[i]? = some 0) :
    (fvs ad rf M a 0 ts).set i (.int x) = fvs ad rf (wI M a i x) a 0 ts := by
  refine fvs_ext ad rf rf M (wI M a i x) a (.int x) i ts 0 (fun j t hj => ?_)
  rw [Nat.zero_add]
  by_cases e : j = i
  · subst e
    rw [h] at hj
    cases hj
    simp [fvl, wI]
  · simp [fvl, wI, e]
theorem fvs_setD (ad : Nat → Nat) (rf : Nat → Nat → Option Nat) (M : Mm) (a : Nat) (ts : List Nat) (i : Nat) (x : Int32) (h : ts[i]? = some 3) :
    (fvs ad rf M a 0 ts).set i (.ref (ad x.toNatClampNeg)) = fvs ad rf (wI M a i x) a 0 ts := by
  refine fvs_ext ad rf rf M (wI M a i x) a _ i ts 0 (fun j t hj => ?_)
  rw [Nat.zero_add]
  by_cases e : j = i
  · subst e
    rw [h] at hj
    cases hj
    simp [fvl, wI]
  · simp [fvl, wI, e]
/-- what a cell holds: sh a its kind and its class or length -/
def cof (cy : Nat → ClassId) (ad : Nat → Nat) (kd : Nat → List Nat) (sh : Nat → Nat × Nat) (rf : Nat → Nat → Option Nat) (M : Mm) (a : Nat) : va_E :=
  if (sh a).1 = 0 then .inr ((sh a).2, fvs ad rf M a 0 (kd (sh a).2))
  else if (sh a).1 = 1 then .inl (cy 0, (sh a).2, .inl (M.1 a))
  else if (sh a).1 = 2 then .inl (cy 1, (sh a).2, .inl (M.1 a))
  else if (sh a).1 = 3 then .inl (cy 2, (sh a).2, .inr (.inr (.inr (.inr (fun j => (rf a j).map ad)))))
  else .inl (cy 3, (sh a).2, .inr (.inr (.inr (.inr (fun j => (rf a j).map ad)))))
def wsF (ad : Nat → Nat) (cf : Nat → va_E) (N : Nat) : va_W := (List.range N).map (fun k => (ad k, cf k))
theorem wsF_get {ad : Nat → Nat} {cf : Nat → va_E} {N k : Nat} (h : k < N) : (wsF ad cf N)[k]? = some (ad k, cf k) := by
  unfold wsF
  rw [List.getElem?_map, List.getElem?_range h]
  rfl
theorem wsF_some {ad : Nat → Nat} {cf : Nat → va_E} {N k : Nat} {q : Nat × va_E} (h : (wsF ad cf N)[k]? = some q) : k < N ∧ q = (ad k, cf k) := by
  have hk : k < N := by
    have := (List.getElem?_eq_some_iff.mp h).1
    simpa [wsF] using this
  rw [wsF_get hk] at h
  exact ⟨hk, (Option.some.inj h).symm⟩
theorem wsF_set {ad : Nat → Nat} {cf cg : Nat → va_E} {N k : Nat} {e : va_E} (he : cg k = e) (ho : ∀ j, j < N → j ≠ k → cg j = cf j) : (wsF ad cf N).set k (ad k, e) = wsF ad cg N := by
  apply List.ext_getElem?
  intro i
  by_cases hi : i < N
  · by_cases e1 : i = k
    · subst e1
      rw [List.getElem?_set_self (by simpa [wsF] using hi), wsF_get hi, he]
    · rw [List.getElem?_set_ne (Ne.symm e1), wsF_get hi, wsF_get hi, ho i hi e1]
  · rw [List.getElem?_eq_none (by simp [wsF]; omega), List.getElem?_eq_none (by simp [wsF]; omega)]
theorem wsF_congr {ad : Nat → Nat} {cf cg : Nat → va_E} {N : Nat} (h : ∀ k, k < N → cf k = cg k) : wsF ad cf N = wsF ad cg N := by
  apply List.map_congr_left
  intro k hk
  rw [h k (List.mem_range.mp hk)]
theorem wsF_push (ad : Nat → Nat) (cf : Nat → va_E) (N : Nat) : wsF ad cf N ++ [(ad N, cf N)] = wsF ad cf (N + 1) := by
  simp [wsF, List.range_succ]
def AV (ad : Nat → Nat) (N : Nat) : Nat → Prop := fun q => ∃ k, k < N ∧ q = ad k
def Inj (ad : Nat → Nat) (N : Nat) : Prop := ∀ i j, i < N → j < N → ad i = ad j → i = j
theorem wsF_D {ad : Nat → Nat} {cf : Nat → va_E} {N : Nat} {A : Nat → Prop} (hJ : Inj ad N) (hA : ∀ k, k < N → A (ad k)) : va_D A (wsF ad cf N) := by
  refine ⟨fun i j p q hi hj h => ?_, fun k q hk => ?_⟩
  · obtain ⟨h1, rfl⟩ := wsF_some hi
    obtain ⟨h2, rfl⟩ := wsF_some hj
    exact hJ i j h1 h2 h
  · obtain ⟨h1, rfl⟩ := wsF_some hk
    exact hA k h1
abbrev tysV (cy : Nat → ClassId) : List (ClassId × FieldType) := [(cy 0, .int), (cy 1, .boolean), (cy 2, .object RX1), (cy 3, .array .int)]
section COF
variable {cy : Nat → ClassId} {ad : Nat → Nat} {kd : Nat → List Nat} {sh : Nat → Nat × Nat} {rf : Nat → Nat → Option Nat} {M : Mm} {a n N : Nat}
theorem cof_obj (h : sh a = (0, n)) : cof cy ad kd sh rf M a = .inr (n, fvs ad rf M a 0 (kd n)) := by simp [cof, h]
theorem cof_I (h : sh a = (1, n)) : cof cy ad kd sh rf M a = .inl (cy 0, n, .inl (M.1 a)) := by simp [cof, h]
theorem cof_Z (h : sh a = (2, n)) : cof cy ad kd sh rf M a = .inl (cy 1, n, .inl (M.1 a)) := by simp [cof, h]
theorem cof_R (h : sh a = (3, n)) : cof cy ad kd sh rf M a = .inl (cy 2, n, .inr (.inr (.inr (.inr (fun j => (rf a j).map ad))))) := by simp [cof, h]
theorem cof_G (h : sh a = (4, n)) : cof cy ad kd sh rf M a = .inl (cy 3, n, .inr (.inr (.inr (.inr (fun j => (rf a j).map ad))))) := by simp [cof, h]
theorem fvs_wI_ne {k : Nat} {x : Int32} {b : Nat} (hb : b ≠ a) : ∀ (ts : List Nat) (i : Nat), fvs ad rf (wI M a k x) b i ts = fvs ad rf M b i ts
  | [], _ => rfl
  | t :: ts, i => by
    show fvl ad rf (wI M a k x) b i t :: _ = fvl ad rf M b i t :: _
    rw [fvs_wI_ne hb ts (i + 1)]
    congr 1
    simp [fvl, wI, hb]
theorem cof_wI_ne {k : Nat} {x : Int32} {b : Nat} (hb : b ≠ a) : cof cy ad kd sh rf (wI M a k x) b = cof cy ad kd sh rf M b := by
  have e : (wI M a k x).1 b = M.1 b := by funext j; simp [wI, hb]
  unfold cof
  rw [fvs_wI_ne hb, e]
theorem cof_wA_ne {f : Nat → Int32} {b : Nat} (hb : b ≠ a) : cof cy ad kd sh rf (wA M a f) b = cof cy ad kd sh rf M b := by
  have e : (wA M a f).1 b = M.1 b := by simp [wA, hb]
  have e2 : ∀ (ts : List Nat) (i : Nat), fvs ad rf (wA M a f) b i ts = fvs ad rf M b i ts := by
    intro ts
    induction ts with
    | nil => intro i; rfl
    | cons t ts ih =>
      intro i
      show fvl ad rf (wA M a f) b i t :: _ = fvl ad rf M b i t :: _
      rw [ih (i + 1)]
      congr 1
      simp [fvl, e]
      rfl
  unfold cof
  rw [e2, e]
end COF
abbrev WSt (D : va_G) (cy : Nat → ClassId) (ad : Nat → Nat) (kd : Nat → List Nat) (sh : Nat → Nat × Nat) (rf : Nat → Nat → Option Nat) (N : Nat) (A : Nat → Prop) (M : Mm) (H0 H : Heap) (locs : List Loc) : Prop :=
  va_P D vwCl (wsF ad (cof cy ad kd sh rf M) N) H ∧ va_S A H0 H locs
/-- words of the tables that aren't on a method's list: links to private members of a nest mate -/
def nsF : List (String × Nat × String × String × String × String) := [(RX6, 70, "RoomBorn$Text", "length", "I", "RoomBorn"), (RX6, 82, "RoomBorn$Text", "start", "I", "RoomBorn"), (RX6, 95, "RoomBorn$Moment", "old", "[I", "RoomBorn"), (RX6, 103, "RoomBorn$Moment", "joined", "[I", "RoomBorn"), (RX6, 119, "RoomBorn$Moment", "age", "[I", "RoomBorn"), (RX6, 141, "RoomBorn$Moment", "yearNumber", "I", "RoomBorn"), (RX6, 109, "RoomBorn$Moment", "born", "I", "RoomBorn"), (RX6, 116, "RoomBorn$Moment", "living", "I", "RoomBorn"), (RX6, 148, "RoomBorn$Past", "known", "I", "RoomBorn"), (RX6, 188, "RoomBorn$Filling", "can", "[I", "RoomBorn"), (RX6, 272, "RoomBorn$Filling", "children", "I", "RoomBorn"), (RX6, 275, "RoomBorn$Filling", "works", "I", "RoomBorn"), (RX6, 220, "RoomBorn$Seen", "known", "I", "RoomBorn"), (RX1, 31, "RoomBorn$Told", "old", "[I", "RoomBorn"), (RX4, 70, "RoomBorn$Told", "old", "[I", "RoomBorn"), (RX4, 79, "RoomBorn$Told", "low", "[I", "RoomBorn"), (RX6, 128, "RoomBorn$Told", "low", "[I", "RoomBorn"), (RX4, 82, "RoomBorn$Told", "high", "[I", "RoomBorn"), (RX6, 131, "RoomBorn$Told", "high", "[I", "RoomBorn"), (RX4, 48, "RoomBorn$Told", "items", "I", "RoomBorn"), (RX6, 88, "RoomBorn$Told", "items", "I", "RoomBorn"), (RX4, 63, "RoomBorn$Told", "rooms", "I", "RoomBorn"), (RX1, 54, "RoomBorn$Told", "rooms", "I", "RoomBorn"), (RX6, 185, "RoomBorn$Told", "rooms", "I", "RoomBorn"), (RX4, 85, "RoomBorn$Told", "mothers", "I", "RoomBorn"), (RX1, 57, "RoomBorn$Told", "mothers", "I", "RoomBorn"), (RX6, 205, "RoomBorn$Told", "mothers", "I", "RoomBorn"), (RX4, 76, "RoomBorn$Told", "works", "I", "RoomBorn"), (RX6, 233, "RoomBorn$Told", "works", "I", "RoomBorn"), (RX1, 60, "RoomBorn$Told", "life", "I", "RoomBorn"), (RX4, 88, "RoomBorn$Told", "life", "I", "RoomBorn"), (RX6, 155, "RoomBorn$Told", "life", "I", "RoomBorn")]
def nsM : List (String × Nat × MethodName × String) := [(RX6, 9, yX4_init, "RoomBorn"), (RX6, 18, yX1_init, "RoomBorn"), (RX6, 25, yX2_init, "RoomBorn"), (RX2, 24, yX1_init, "RoomBorn"), (RX6, 40, yX0_init, "RoomBorn"), (RX6, 47, yX3_init, "RoomBorn"), (RX6, 54, yX5_init, "RoomBorn"), (RX6, 66, yX1_begin, "RoomBorn"), (RX1, 34, yX6_bit, "RoomBorn"), (RX6, 74, yX4_add, "RoomBorn"), (RX6, 78, yX4_reads, "RoomBorn"), (RX4, 29, yX5_tellNothing, "RoomBorn"), (RX6, 99, yX1_ageOfRoom, "RoomBorn"), (RX1, 47, yX6_has, "RoomBorn"), (RX6, 191, yX5_worksAt, "RoomBorn"), (RX5, 47, yX6_bit, "RoomBorn"), (RX6, 269, yX5_does, "RoomBorn"), (RX6, 194, yX0_solve, "RoomBorn"), (RX0, 27, yX6_bit, "RoomBorn"), (RX0, 44, yX6_has, "RoomBorn"), (RX6, 151, yX2_remember, "RoomBorn"), (RX2, 25, yX1_become, "RoomBorn"), (RX6, 158, yX1_bear, "RoomBorn"), (RX6, 162, yX1_passYear, "RoomBorn"), (RX6, 166, yX1_knockThrough, "RoomBorn"), (RX6, 173, yX1_buildAnew, "RoomBorn"), (RX6, 176, yX2_restore, "RoomBorn"), (RX6, 179, yX0_workOf, "RoomBorn"), (RX6, 202, yX1_ageTogether, "RoomBorn"), (RX6, 208, yX1_howManyAheadOf, "RoomBorn"), (RX6, 221, yX3_add, "RoomBorn"), (RX6, 276, yX3_allows, "RoomBorn"), (RX3, 23, yX5_spans, "RoomBorn"), (RX6, 280, yX5_spans, "RoomBorn"), (RX6, 266, yX1_become, "RoomBorn")]
def Nst (U : State) : Prop := (∀ q ∈ nsF, va_Nw (.fieldLinkNest q.1 q.2.1 q.2.2.1 q.2.2.2.1 q.2.2.2.2.1 q.2.2.2.2.2) U) ∧ ∀ q ∈ nsM, va_Nw (.methodLinkNest q.1 q.2.1 q.2.2.1 q.2.2.2) U
theorem Nst.warm {s U : State} (hW : s.WarmedH U.vm) (h : Nst s) : Nst U := ⟨fun q hq => va_Nw.warmF hW (h.1 q hq), fun q hq => va_Nw.warmM hW (h.2 q hq)⟩
theorem Nst.same {u U : State} (hv : u.vm = U.vm) (h : Nst u) : Nst U := ⟨fun q hq => va_Nw.same rfl hv (h.1 q hq), fun q hq => va_Nw.same rfl hv (h.2 q hq)⟩
theorem Nst.f {U : State} (h : Nst U) {a : String} {i : Nat} {b n d g : String} (k : Nat) (hk : nsF[k]? = some (a, i, b, n, d, g)) : va_Nw (.fieldLinkNest a i b n d g) U := h.1 _ (List.mem_of_getElem? hk)
theorem Nst.m {U : State} (h : Nst U) {a : String} {i : Nat} {y : MethodName} {g : String} (k : Nat) (hk : nsM[k]? = some (a, i, y, g)) : va_Nw (.methodLinkNest a i y g) U := h.2 _ (List.mem_of_getElem? hk)
abbrev PcF (As : List Value) (D : va_G) (cy : Nat → ClassId) (ad : Nat → Nat) (kd : Nat → List Nat) (sh : Nat → Nat × Nat) (rf : Nat → Nat → Option Nat) (N : Nat) (M : Mm) : Array Value → State → Prop :=
  va_Pc As (fun U => va_P D vwCl (wsF ad (cof cy ad kd sh rf M) N) U.heap ∧ va_K D vwCl (tysV cy) U ∧ Nst U)
abbrev QcI (r : Int32) (D : va_G) (cy : Nat → ClassId) (ad : Nat → Nat) (kd : Nat → List Nat) (sh : Nat → Nat × Nat) (rf : Nat → Nat → Option Nat) (N : Nat) (M : Mm) : Array Value → State → Outcome → State → Prop :=
  va_Qi (fun (x : Int32) (_ : Unit) => x = r) (fun _ t => va_P D vwCl (wsF ad (cof cy ad kd sh rf M) N) t.heap) (AV ad N)
abbrev QcL (r : Int64) (D : va_G) (cy : Nat → ClassId) (ad : Nat → Nat) (kd : Nat → List Nat) (sh : Nat → Nat × Nat) (rf : Nat → Nat → Option Nat) (N : Nat) (M : Mm) : Array Value → State → Outcome → State → Prop :=
  va_Ql (fun (x : Int64) (_ : Unit) => x = r) (fun _ t => va_P D vwCl (wsF ad (cof cy ad kd sh rf M) N) t.heap) (AV ad N)
abbrev QcV (D : va_G) (cy : Nat → ClassId) (ad : Nat → Nat) (kd : Nat → List Nat) (sh : Nat → Nat × Nat) (rf : Nat → Nat → Option Nat) (N : Nat) (M : Mm) : Array Value → State → Outcome → State → Prop :=
  va_Qv (fun (_ : Unit) => True) (fun _ t => va_P D vwCl (wsF ad (cof cy ad kd sh rf M) N) t.heap) (AV ad N)
theorem PcF.blind {As : List Value} {D : va_G} {cy : Nat → ClassId} {ad : Nat → Nat} {kd : Nat → List Nat} {sh : Nat → Nat × Nat} {rf : Nat → Nat → Option Nat} {N : Nat} {M : Mm} : FrameBlind (PcF As D cy ad kd sh rf N M) := fun a U g mk q => by
  obtain ⟨q0, q1, q2, q3⟩ := q
  exact ⟨q0, q1, va_K.moved (u := U) (U := U.calling g mk a) (Vm.Alike.refl U.vm) q2, Nst.same (u := U) (U := U.calling g mk a) rfl q3⟩
theorem atw {Ts : List Cond} {args : Array Value} {s : State} {w : Cond} (hts : ∀ w ∈ Ts, w.before args s = true) (i : Nat) (h : Ts[i]? = some w) : w.before args s = true := hts w (List.mem_of_getElem? h)
section FL
variable {p : Program} {l : Launch} {e : Env} {R : Room} {s : State} {m : MethodId} {args : Array Value} {below : List Frame} {meth : Method} {c : Code} {H : Heap} {locs : List Loc} {cells slots : Nat} {Q : State → Prop}
variable {cc : ByteArray} {pc nL : Nat} {ls : Array Slot} {rest st0 : List Value} {Ts : List Cond} {own : String}
variable {D : va_G} {cy : Nat → ClassId} {ad : Nat → Nat} {kd : Nat → List Nat} {sh : Nat → Nat × Nat} {rf : Nat → Nat → Option Nat} {N : Nat} {A : Nat → Prop} {M : Mm} {a : Nat}
theorem fl_get (S : CallFix p m c cc nL s args Ts own) (hK : va_K D vwCl (tysV cy) s) {C ref : String} {T : u_T} {NF ci index : Nat} (hin : ∀ w ∈ u_ws C T NF, w ∈ Ts) (hc : vwCl[ci]? = some (C, T, NF)) (ha : a < N) (hsh : sh a = (0, ci)) (k : Nat) (hk : k < NF) (hlink : (Cond.fieldLink own index ref (T k).2.1 (T k).2.2.1).before args s = true) (hsame : ∀ x, s.fieldFound? (T k).1 (T k).2.1 (T k).2.2.1 = some x → s.fieldFound? ref (T k).2.1 (T k).2.2.1 = some x) {v : Value} (hv : (fvs ad rf M a 0 (kd ci))[k]? = some v) (hW : WSt D cy ad kd sh rf N A M s.heap H locs) (hdg : decode cc pc = .ok (.getfield index, 3))
    (kk : W p l e R s m args below meth c H locs cells slots Q (F0 m (pc + 3) ls (v :: rest))) : W p l e R s m args below meth c H locs cells slots Q (F0 m pc ls (.ref (ad a) :: rest)) :=
  va_get S.1 S.2.1 S.2.2.2.2 hin S.2.2.2.1 hK hW.1 a (by rw [wsF_get ha, cof_obj hsh]) hc k hk hlink hsame hv hdg kk
theorem fl_getN (S : CallFix p m c cc nL s args Ts own) (hK : va_K D vwCl (tysV cy) s) {C ref host : String} {T : u_T} {NF ci index : Nat} (hin : ∀ w ∈ u_ws C T NF, w ∈ Ts) (hc : vwCl[ci]? = some (C, T, NF)) (ha : a < N) (hsh : sh a = (0, ci)) (k : Nat) (hk : k < NF) (hlink : va_Nw (.fieldLinkNest own index ref (T k).2.1 (T k).2.2.1 host) s) (hsame : ∀ x, s.fieldFound? (T k).1 (T k).2.1 (T k).2.2.1 = some x → s.fieldFound? ref (T k).2.1 (T k).2.2.1 = some x) {v : Value} (hv : (fvs ad rf M a 0 (kd ci))[k]? = some v) (hW : WSt D cy ad kd sh rf N A M s.heap H locs) (hdg : decode cc pc = .ok (.getfield index, 3))
    (kk : W p l e R s m args below meth c H locs cells slots Q (F0 m (pc + 3) ls (v :: rest))) : W p l e R s m args below meth c H locs cells slots Q (F0 m pc ls (.ref (ad a) :: rest)) :=
  va_getN S.1 S.2.1 S.2.2.2.2 hin S.2.2.2.1 hK hW.1 a (by rw [wsF_get ha, cof_obj hsh]) hc k hk (va_Nw.use rfl hlink) hsame hv hdg kk
theorem fl_puts {ci k : Nat} {v : Value} {M' : Mm} (hk : (kd ci)[k]? ≠ none) (hsh : sh a = (0, ci)) (he : (fvs ad rf M a 0 (kd ci)).set k v = fvs ad rf M' a 0 (kd ci)) (ho : ∀ j, j < N → j ≠ a → cof cy ad kd sh rf M' j = cof cy ad kd sh rf M j) :
    (wsF ad (cof cy ad kd sh rf M) N).set a (ad a, .inr (ci, (fvs ad rf M a 0 (kd ci)).set k v)) = wsF ad (cof cy ad kd sh rf M') N :=
  wsF_set (by rw [cof_obj hsh, he]) ho
theorem fl_put (S : CallFix p m c cc nL s args Ts own) (hK : va_K D vwCl (tysV cy) s) (hJ : Inj ad N) (hA : ∀ k, k < N → A (ad k)) {C ref : String} {T : u_T} {NF ci index : Nat} (ty0 : Nat → FieldType) (hty : ∀ k, k < NF → parseFieldDescriptor (T k).2.2.1 = some (ty0 k)) (hnm : ∀ a, a < NF → ∀ b, b < NF → a ≠ b → (T a).2.1 ≠ (T b).2.1) (hin : ∀ w ∈ u_ws C T NF, w ∈ Ts) (hc : vwCl[ci]? = some (C, T, NF)) (ha : a < N) (hsh : sh a = (0, ci)) (k : Nat) (hk : k < NF) (hlink : (Cond.fieldLink own index ref (T k).2.1 (T k).2.2.1).before args s = true) (hsame : ∀ x, s.fieldFound? (T k).1 (T k).2.1 (T k).2.2.1 = some x → s.fieldFound? ref (T k).2.1 (T k).2.2.1 = some x) (hfin : (T k).2.2.2 = false) {ty : FieldType} {v : Value} (hd : parseFieldDescriptor (T k).2.2.1 = some ty) (hn : narrow ty v = v) (hfit : fits ty v = true)
    (M' : Mm) (hkd : k < (kd ci).length) (he : (fvs ad rf M a 0 (kd ci)).set k v = fvs ad rf M' a 0 (kd ci)) (ho : ∀ j, j < N → j ≠ a → cof cy ad kd sh rf M' j = cof cy ad kd sh rf M j)
    (hW : WSt D cy ad kd sh rf N A M s.heap H locs) (hdg : decode cc pc = .ok (.putfield index, 3))
    (kk : ∀ (H1 : Heap) (locs1 : List Loc), WSt D cy ad kd sh rf N A M' s.heap H1 locs1 → W p l e R s m args below meth c H1 locs1 cells slots Q (F0 m (pc + 3) ls rest)) : W p l e R s m args below meth c H locs cells slots Q (F0 m pc ls (v :: .ref (ad a) :: rest)) := by
  refine va_put S.1 S.2.1 S.2.2.2.2 hin ty0 hty hnm S.2.2.2.1 hK hW.1 (wsF_D hJ hA) hW.2 a (by rw [wsF_get ha, cof_obj hsh]) hc k hk hlink hsame hfin hd hn hfit (by rw [fvs_len]; exact hkd) hdg (fun H1 locs1 hP hD hS => kk H1 locs1 ⟨?_, hS⟩)
  rw [fl_puts (fun h => by rw [List.getElem?_eq_none_iff] at h; omega) hsh he ho] at hP
  exact hP
theorem fl_putN (S : CallFix p m c cc nL s args Ts own) (hK : va_K D vwCl (tysV cy) s) (hJ : Inj ad N) (hA : ∀ k, k < N → A (ad k)) {C ref host : String} {T : u_T} {NF ci index : Nat} (ty0 : Nat → FieldType) (hty : ∀ k, k < NF → parseFieldDescriptor (T k).2.2.1 = some (ty0 k)) (hnm : ∀ a, a < NF → ∀ b, b < NF → a ≠ b → (T a).2.1 ≠ (T b).2.1) (hin : ∀ w ∈ u_ws C T NF, w ∈ Ts) (hc : vwCl[ci]? = some (C, T, NF)) (ha : a < N) (hsh : sh a = (0, ci)) (k : Nat) (hk : k < NF) (hlink : va_Nw (.fieldLinkNest own index ref (T k).2.1 (T k).2.2.1 host) s) (hsame : ∀ x, s.fieldFound? (T k).1 (T k).2.1 (T k).2.2.1 = some x → s.fieldFound? ref (T k).2.1 (T k).2.2.1 = some x) (hfin : (T k).2.2.2 = false) {ty : FieldType} {v : Value} (hd : parseFieldDescriptor (T k).2.2.1 = some ty) (hn : narrow ty v = v) (hfit : fits ty v = true)
    (M' : Mm) (hkd : k < (kd ci).length) (he : (fvs ad rf M a 0 (kd ci)).set k v = fvs ad rf M' a 0 (kd ci)) (ho : ∀ j, j < N → j ≠ a → cof cy ad kd sh rf M' j = cof cy ad kd sh rf M j)
    (hW : WSt D cy ad kd sh rf N A M s.heap H locs) (hdg : decode cc pc = .ok (.putfield index, 3))
    (kk : ∀ (H1 : Heap) (locs1 : List Loc), WSt D cy ad kd sh rf N A M' s.heap H1 locs1 → W p l e R s m args below meth c H1 locs1 cells slots Q (F0 m (pc + 3) ls rest)) : W p l e R s m args below meth c H locs cells slots Q (F0 m pc ls (v :: .ref (ad a) :: rest)) := by
  refine va_putN S.1 S.2.1 S.2.2.2.2 hin ty0 hty hnm S.2.2.2.1 hK hW.1 (wsF_D hJ hA) hW.2 a (by rw [wsF_get ha, cof_obj hsh]) hc k hk (va_Nw.use rfl hlink) hsame hfin hd hn hfit (by rw [fvs_len]; exact hkd) hdg (fun H1 locs1 hP hD hS => kk H1 locs1 ⟨?_, hS⟩)
  rw [fl_puts (fun h => by rw [List.getElem?_eq_none_iff] at h; omega) hsh he ho] at hP
  exact hP
theorem fl_iald (S : CallFix p m c cc nL s args Ts own) (hK : va_K D vwCl (tysV cy) s) {n : Nat} (ha : a < N) (hsh : sh a = (1, n)) {i : Int32} (hin : vp_in i n) (hW : WSt D cy ad kd sh rf N A M s.heap H locs) (hdg : decode cc pc = .ok (.iaload, 1))
    (kk : W p l e R s m args below meth c H locs cells slots Q (F0 m (pc + 1) ls (.int (M.1 a i.toNatClampNeg) :: rest))) : W p l e R s m args below meth c H locs cells slots Q (F0 m pc ls (.int i :: .ref (ad a) :: rest)) :=
  va_iald S.1 S.2.1 hK hW.1 a 0 (f := M.1 a) (by rw [wsF_get ha, cof_I hsh]) rfl hin hdg kk
theorem fl_zald (S : CallFix p m c cc nL s args Ts own) (hK : va_K D vwCl (tysV cy) s) {n : Nat} (ha : a < N) (hsh : sh a = (2, n)) {i : Int32} (hin : vp_in i n) (hW : WSt D cy ad kd sh rf N A M s.heap H locs) (hdg : decode cc pc = .ok (.baload, 1))
    (kk : W p l e R s m args below meth c H locs cells slots Q (F0 m (pc + 1) ls (.int (M.1 a i.toNatClampNeg) :: rest))) : W p l e R s m args below meth c H locs cells slots Q (F0 m pc ls (.int i :: .ref (ad a) :: rest)) :=
  va_zald S.1 S.2.1 hK hW.1 a 1 (f := M.1 a) (by rw [wsF_get ha, cof_Z hsh]) rfl hin hdg kk
theorem fl_rald (S : CallFix p m c cc nL s args Ts own) (hK : va_K D vwCl (tysV cy) s) {n b : Nat} (ha : a < N) (hsh : sh a = (3, n)) {i : Int32} (hin : vp_in i n) (hb : rf a i.toNatClampNeg = some b) (hW : WSt D cy ad kd sh rf N A M s.heap H locs) (hdg : decode cc pc = .ok (.aaload, 1))
    (kk : W p l e R s m args below meth c H locs cells slots Q (F0 m (pc + 1) ls (.ref (ad b) :: rest))) : W p l e R s m args below meth c H locs cells slots Q (F0 m pc ls (.int i :: .ref (ad a) :: rest)) :=
  va_aldq S.1 S.2.1 hK hW.1 a 2 (f := fun j => (rf a j).map ad) (by rw [wsF_get ha, cof_R hsh]) rfl hin hdg (by rw [hb]; exact kk)
theorem fl_gald (S : CallFix p m c cc nL s args Ts own) (hK : va_K D vwCl (tysV cy) s) {n b : Nat} (ha : a < N) (hsh : sh a = (4, n)) {i : Int32} (hin : vp_in i n) (hb : rf a i.toNatClampNeg = some b) (hW : WSt D cy ad kd sh rf N A M s.heap H locs) (hdg : decode cc pc = .ok (.aaload, 1))
    (kk : W p l e R s m args below meth c H locs cells slots Q (F0 m (pc + 1) ls (.ref (ad b) :: rest))) : W p l e R s m args below meth c H locs cells slots Q (F0 m pc ls (.int i :: .ref (ad a) :: rest)) := by
  have hlt : i.toNatClampNeg < n := Nat.not_le.mp fun q => hin (Or.inr q)
  have h1 := hW.1 a _ (by rw [wsF_get ha, cof_G hsh])
  exact W.aald (v := .ref (ad b)) (ty := .array .int) S.1 S.2.1 h1 ((hK.2 3 _ rfl).1 n (fun j => va_rf ((rf a j).map ad))) rfl (fun q => by cases q) (by show ¬ (i < 0 ∨ (arrV _ _ _).slots.size ≤ _); rw [arrV_size]; exact hin) (by show (arrV _ _ _).slots[_]? = _; rw [arrV_read _ _ hlt]; show some (va_rf ((rf a i.toNatClampNeg).map ad)) = _; rw [hb]; rfl) rfl rfl hdg kk
theorem fl_iast (S : CallFix p m c cc nL s args Ts own) (hK : va_K D vwCl (tysV cy) s) (hJ : Inj ad N) (hA : ∀ k, k < N → A (ad k)) {n : Nat} (ha : a < N) (hsh : sh a = (1, n)) {i x : Int32} (hin : vp_in i n) (hW : WSt D cy ad kd sh rf N A M s.heap H locs) (hdg : decode cc pc = .ok (.iastore, 1))
    (kk : ∀ (H1 : Heap) (locs1 : List Loc), WSt D cy ad kd sh rf N A (wI M a i.toNatClampNeg x) s.heap H1 locs1 → W p l e R s m args below meth c H1 locs1 cells slots Q (F0 m (pc + 1) ls rest)) : W p l e R s m args below meth c H locs cells slots Q (F0 m pc ls (.int x :: .int i :: .ref (ad a) :: rest)) := by
  refine va_iast S.1 S.2.1 hK hW.1 (wsF_D hJ hA) hW.2 a 0 (f := M.1 a) (by rw [wsF_get ha, cof_I hsh]) rfl hin hdg (fun H1 locs1 hP hD hS => kk H1 locs1 ⟨?_, hS⟩)
  rw [wsF_set (cg := cof cy ad kd sh rf (wI M a i.toNatClampNeg x)) (by rw [cof_I hsh, wI_wA]; simp [wA]) (fun j _ hj => cof_wI_ne hj)] at hP
  exact hP
theorem fl_zast (S : CallFix p m c cc nL s args Ts own) (hK : va_K D vwCl (tysV cy) s) (hJ : Inj ad N) (hA : ∀ k, k < N → A (ad k)) {n : Nat} (ha : a < N) (hsh : sh a = (2, n)) {i x : Int32} (hin : vp_in i n) (hx : vp_nar .boolean x = x) (hW : WSt D cy ad kd sh rf N A M s.heap H locs) (hdg : decode cc pc = .ok (.bastore, 1))
    (kk : ∀ (H1 : Heap) (locs1 : List Loc), WSt D cy ad kd sh rf N A (wI M a i.toNatClampNeg x) s.heap H1 locs1 → W p l e R s m args below meth c H1 locs1 cells slots Q (F0 m (pc + 1) ls rest)) : W p l e R s m args below meth c H locs cells slots Q (F0 m pc ls (.int x :: .int i :: .ref (ad a) :: rest)) := by
  refine va_zast S.1 S.2.1 hK hW.1 (wsF_D hJ hA) hW.2 a 1 (f := M.1 a) (by rw [wsF_get ha, cof_Z hsh]) rfl hin hdg (fun H1 locs1 hP hD hS => kk H1 locs1 ⟨?_, hS⟩)
  rw [hx] at hP
  rw [wsF_set (cg := cof cy ad kd sh rf (wI M a i.toNatClampNeg x)) (by rw [cof_Z hsh, wI_wA]; simp [wA]) (fun j _ hj => cof_wI_ne hj)] at hP
  exact hP
/-- a whole int array copied over another of the same length -/
theorem fl_copy (S : CallFix p m c cc nL s args Ts own) (hK : va_K D vwCl (tysV cy) s) (hJ : Inj ad N) (hA : ∀ k, k < N → A (ad k)) (hl : ls.size = nL) {index n b : Nat} {z : Int32} (hlink : (Cond.methodLink own index arraycopyName).before args s = true) (hnat : (Cond.native arraycopyName).before args s = true) (hstat : (Cond.static arraycopyName).before args s = true) (hini : (Cond.initialized "java/lang/System").before args s = true)
    (ha : a < N) (hsh : sh a = (1, n)) (hb : b < N) (hsb : sh b = (1, n)) (hz : ¬ z < 0) (hzn : z.toNatClampNeg ≤ n) (hframes : 1 ≤ R.frames) (hlocals : (rest.map fun v => v.category).sum + (nativeFrameWords "java/lang/System" "arraycopy" 5 + 11) ≤ R.locals)
    (hW : WSt D cy ad kd sh rf N A M s.heap H locs) (hdg : decode cc pc = .ok (.invokestatic index, 3))
    (kk : ∀ (H1 : Heap) (locs1 : List Loc), WSt D cy ad kd sh rf N A (wA M a (va_cpy (M.1 b) (M.1 a) 0 0 z.toNatClampNeg)) s.heap H1 locs1 → W p l e R s m args below meth c H1 locs1 cells slots Q (F0 m (pc + 3) ls rest)) : W p l e R s m args below meth c H locs cells slots Q (F0 m pc ls (.int z :: .int 0 :: .ref (ad a) :: .int 0 :: .ref (ad b) :: rest)) := by
  refine va_copyi S.1 S.2.1 (S.2.2.1.trans hl.symm) S.2.2.2.1 hlink hnat hstat hini hK hW.1 (wsF_D hJ hA) hW.2 b a 0 0 (f := M.1 b) (g := M.1 a) (ty := .int) (by rw [wsF_get hb, cof_I hsb]) (by rw [wsF_get ha, cof_I hsh]) rfl rfl rfl (by decide) (by decide) hz (by show 0 + _ ≤ _; omega) (by show 0 + _ ≤ _; omega) (fun _ _ => rfl) hframes hlocals hdg (fun H1 locs1 hP hD hS => kk H1 locs1 ⟨?_, hS⟩)
  rw [wsF_set (cg := cof cy ad kd sh rf (wA M a (va_cpy (M.1 b) (M.1 a) 0 0 z.toNatClampNeg))) (by rw [cof_I hsh]; simp [wA]) (fun j _ hj => cof_wA_ne hj)] at hP
  exact hP
/-- a method's world is the caller's -/
theorem fl_pre {As : List Value} (hK : va_K D vwCl (tysV cy) s) (hN : Nst s) (hW : WSt D cy ad kd sh rf N A M s.heap H locs) : ∀ U : State, U.heap = H → s.WarmedH U.vm → PcF As D cy ad kd sh rf N M As.toArray U := fun U hU hWm =>
  ⟨rfl, by rw [hU]; exact hW.1, va_K.moved hWm.alike hK, Nst.warm hWm hN⟩
theorem fl_recv {ci : Nat} {q : vw_C} (hK : va_K D vwCl (tysV cy) s) (hW : WSt D cy ad kd sh rf N A M s.heap H locs) (hc : vwCl[ci]? = some q) (ha : a < N) (hsh : sh a = (0, ci)) : ∃ cell : Cell, H[ad a]? = some cell ∧ cell.vm.isStatics = false ∧ s.vm.findClass q.1 = some cell.cls :=
  va_recv hK hW.1 hc (q0 := a) (by rw [wsF_get ha, cof_obj hsh])
theorem fl_A (hA : ∀ k, k < N → A (ad k)) : ∀ q, AV ad N q → A q := fun q h => by
  obtain ⟨k, hk, rfl⟩ := h
  exact hA k hk
variable {y : MethodName} {bytes : ByteArray} {maxL n index : Nat} {ws : List Cond} {rm : Room} {C host : String} {As : List Value} {M' : Mm} {r : Int32} {r8 : Int64}
/-- behind a call of each kind (Run: how it was called) -/
theorem fl_doneI {a' : Array Value} (hr : va_Run p l e R s m args below meth c H locs cells slots 0 0 (F0 m pc ls st0) rest (QcI r D cy ad kd sh rf N M' a') (AV ad N)) (hA : ∀ k, k < N → A (ad k)) (hS : va_S A s.heap H locs)
    (kk : ∀ (H1 : Heap) (locs1 : List Loc), WSt D cy ad kd sh rf N A M' s.heap H1 locs1 → W p l e R s m args below meth c H1 locs1 cells slots Q (F0 m (pc + 3) ls (.int r :: rest))) : W p l e R s m args below meth c H locs cells slots Q (F0 m pc ls st0) :=
  va_calli hr hS (fun q _ h => fl_A hA q h) (fl_A hA) (fun r1 u t H1 locs1 ht _ hw hB _ _ hS1 => by
    subst hw
    exact kk H1 locs1 ⟨by rw [← ht]; exact hB, hS1⟩)
theorem fl_doneL {a' : Array Value} (hr : va_Run p l e R s m args below meth c H locs cells slots 0 0 (F0 m pc ls st0) rest (QcL r8 D cy ad kd sh rf N M' a') (AV ad N)) (hA : ∀ k, k < N → A (ad k)) (hS : va_S A s.heap H locs)
    (kk : ∀ (H1 : Heap) (locs1 : List Loc), WSt D cy ad kd sh rf N A M' s.heap H1 locs1 → W p l e R s m args below meth c H1 locs1 cells slots Q (F0 m (pc + 3) ls (.long r8 :: rest))) : W p l e R s m args below meth c H locs cells slots Q (F0 m pc ls st0) :=
  va_calll hr hS (fun q _ h => fl_A hA q h) (fl_A hA) (fun r1 u t H1 locs1 ht _ hw hB _ _ hS1 => by
    subst hw
    exact kk H1 locs1 ⟨by rw [← ht]; exact hB, hS1⟩)
theorem fl_doneV {a' : Array Value} (hr : va_Run p l e R s m args below meth c H locs cells slots 0 0 (F0 m pc ls st0) rest (QcV D cy ad kd sh rf N M' a') (AV ad N)) (hA : ∀ k, k < N → A (ad k)) (hS : va_S A s.heap H locs)
    (kk : ∀ (H1 : Heap) (locs1 : List Loc), WSt D cy ad kd sh rf N A M' s.heap H1 locs1 → W p l e R s m args below meth c H1 locs1 cells slots Q (F0 m (pc + 3) ls rest)) : W p l e R s m args below meth c H locs cells slots Q (F0 m pc ls st0) :=
  va_callv hr hS (fun q _ h => fl_A hA q h) (fl_A hA) (fun u t H1 locs1 ht _ _ hB _ _ hS1 => kk H1 locs1 ⟨by rw [← ht]; exact hB, hS1⟩)
/-- the run of a call: invokevirtual, of the own class' private methods or public ones -/
theorem fl_runV {ret : Option FieldType} {Qc : Array Value → State → Outcome → State → Prop} (S : CallFix p m c cc nL s args Ts own) (hK : va_K D vwCl (tysV cy) s) (hN : Nst s) (hM : Met l y ws rm (PcF (.ref (ad a) :: As) D cy ad kd sh rf N M) Qc 0 0 (AV ad N)) (cw : CallW R s args own C index y bytes maxL ret ws rm 0 0 n) {ci NF : Nat} {T : u_T} (hc : vwCl[ci]? = some (C, T, NF)) (ha : a < N) (hsh : sh a = (0, ci)) (hn : As.length = n) (hl : ls.size = nL) (hst : st0 = As.reverse ++ .ref (ad a) :: rest) (hr8 : (rest.map fun v => v.category).sum ≤ 8) (hdg : decode cc pc = .ok (.invokevirtual index, 3)) (hf : cells ≤ R.cells ∧ slots ≤ R.slots) (hW : WSt D cy ad kd sh rf N A M s.heap H locs) :
    va_Run p l e R s m args below meth c H locs cells slots 0 0 (F0 m pc ls st0) rest (Qc (Value.ref (ad a) :: As).toArray) (AV ad N) :=
  va_runV S hM cw ⟨PcF.blind, fl_recv hK hW hc ha hsh, fl_pre hK hN hW⟩ rfl hn hl hst (lv_room hr8) hdg hf
theorem fl_runVN {ret : Option FieldType} {Qc : Array Value → State → Outcome → State → Prop} (S : CallFix p m c cc nL s args Ts own) (hK : va_K D vwCl (tysV cy) s) (hN : Nst s) (hM : Met l y ws rm (PcF (.ref (ad a) :: As) D cy ad kd sh rf N M) Qc 0 0 (AV ad N)) (cw : va_CN R s args own index y host bytes maxL ret ws rm 0 0 n ∧ (Cond.instanceMethod y).before args s = true ∧ (Cond.selects C y y).before args s = true) {ci NF : Nat} {T : u_T} (hc : vwCl[ci]? = some (C, T, NF)) (ha : a < N) (hsh : sh a = (0, ci)) (hn : As.length = n) (hl : ls.size = nL) (hst : st0 = As.reverse ++ .ref (ad a) :: rest) (hr8 : (rest.map fun v => v.category).sum ≤ 8) (hdg : decode cc pc = .ok (.invokevirtual index, 3)) (hf : cells ≤ R.cells ∧ slots ≤ R.slots) (hW : WSt D cy ad kd sh rf N A M s.heap H locs) :
    va_Run p l e R s m args below meth c H locs cells slots 0 0 (F0 m pc ls st0) rest (Qc (Value.ref (ad a) :: As).toArray) (AV ad N) :=
  va_runVN S hM cw ⟨PcF.blind, fl_recv hK hW hc ha hsh, fl_pre hK hN hW⟩ rfl hn hl hst (lv_room hr8) hdg hf
end FL
/-! ===== the pure side: Option with guards ===== -/
def ix {α : Type} (i : Int32) (n : Nat) (x : Option α) : Option α := if i < 0 ∨ n ≤ i.toNatClampNeg then none else x
def gd {α : Type} (p : Bool) (x : Option α) : Option α := if p = true then x else none
def nz {α : Type} (y : Int32) (x : Option α) : Option α := if y = 0 then none else x
def zb {α : Type} (v : Int32) (x : Option α) : Option α := if v = 0 ∨ v = 1 then x else none
def nn {α : Type} (z : Int32) (n : Nat) (x : Option α) : Option α := if ¬ z < 0 ∧ z.toNatClampNeg ≤ n then x else none
def lt {α β : Type} (x : α) (f : α → β) : β := f x
def bP {α β : Type} (x : Option α) (k : α → Option β) : Option β := match x with | none => none | some v => k v
def b2 {α β γ : Type} (x : Option (α × β)) (k : α → β → Option γ) : Option γ := match x with | none => none | some v => k v.1 v.2
def b3 {α β γ δ : Type} (x : Option (α × β × γ)) (k : α → β → γ → Option δ) : Option δ := match x with | none => none | some v => k v.1 v.2.1 v.2.2
def b4 {α β γ δ ε : Type} (x : Option (α × β × γ × δ)) (k : α → β → γ → δ → Option ε) : Option ε := match x with | none => none | some v => k v.1 v.2.1 v.2.2.1 v.2.2.2
def bS {α β γ : Type} (x : Option (α ⊕ β)) (k : α → Option γ) (k2 : β → Option γ) : Option γ := match x with | none => none | some (.inl v) => k v | some (.inr v) => k2 v
theorem ix_some {α : Type} {i : Int32} {n : Nat} {x : Option α} {r : α} (h : ix i n x = some r) : vp_in i n ∧ x = some r := by
  unfold ix at h
  split at h
  · cases h
  · rename_i q
    exact ⟨q, h⟩
theorem gd_some {α : Type} {b : Bool} {x : Option α} {r : α} (h : gd b x = some r) : b = true ∧ x = some r := by
  unfold gd at h
  split at h
  · rename_i q
    exact ⟨q, h⟩
  · cases h
theorem nz_some {α : Type} {y : Int32} {x : Option α} {r : α} (h : nz y x = some r) : ¬ y = 0 ∧ x = some r := by
  unfold nz at h
  split at h
  · cases h
  · rename_i q
    exact ⟨q, h⟩
theorem zb_some {α : Type} {v : Int32} {x : Option α} {r : α} (h : zb v x = some r) : (v = 0 ∨ v = 1) ∧ x = some r := by
  unfold zb at h
  split at h
  · rename_i q
    exact ⟨q, h⟩
  · cases h
theorem nn_some {α : Type} {z : Int32} {n : Nat} {x : Option α} {r : α} (h : nn z n x = some r) : (¬ z < 0 ∧ z.toNatClampNeg ≤ n) ∧ x = some r := by
  unfold nn at h
  split at h
  · rename_i q
    exact ⟨q, h⟩
  · cases h
theorem s1 {α : Type} {a b : α} (h : some a = some b) : a = b := Option.some.inj h
theorem s2 {α β : Type} {a c : α} {b d : β} (h : some (a, b) = some (c, d)) : a = c ∧ b = d := Prod.mk.inj (Option.some.inj h)
theorem s3 {α β γ : Type} {a a' : α} {b b' : β} {c c' : γ} (h : some (a, b, c) = some (a', b', c')) : a = a' ∧ b = b' ∧ c = c' := by
  have h1 := Prod.mk.inj (Option.some.inj h)
  exact ⟨h1.1, Prod.mk.inj h1.2⟩
theorem s4 {α β γ δ : Type} {a a' : α} {b b' : β} {c c' : γ} {d d' : δ} (h : some (a, b, c, d) = some (a', b', c', d')) : a = a' ∧ b = b' ∧ c = c' ∧ d = d' := by
  have h1 := Prod.mk.inj (Option.some.inj h)
  have h2 := Prod.mk.inj h1.2
  exact ⟨h1.1, h2.1, Prod.mk.inj h2.2⟩
theorem lt_some {α β : Type} {x : α} {f : α → β} {r : β} (h : lt x f = r) : ∃ y, x = y ∧ f y = r := ⟨x, rfl, h⟩
theorem bP_some {α β : Type} {x : Option α} {k : α → Option β} {r : β} (h : bP x k = some r) : ∃ v, x = some v ∧ k v = some r := by
  cases x with
  | none => cases h
  | some v => exact ⟨v, rfl, h⟩
theorem b2_some {α β γ : Type} {x : Option (α × β)} {k : α → β → Option γ} {r : γ} (h : b2 x k = some r) : ∃ v w, x = some (v, w) ∧ k v w = some r := by
  cases x with
  | none => cases h
  | some v => exact ⟨v.1, v.2, rfl, h⟩
theorem b3_some {α β γ δ : Type} {x : Option (α × β × γ)} {k : α → β → γ → Option δ} {r : δ} (h : b3 x k = some r) : ∃ v w z, x = some (v, w, z) ∧ k v w z = some r := by
  cases x with
  | none => cases h
  | some v => exact ⟨v.1, v.2.1, v.2.2, rfl, h⟩
theorem b4_some {α β γ δ ε : Type} {x : Option (α × β × γ × δ)} {k : α → β → γ → δ → Option ε} {r : ε} (h : b4 x k = some r) : ∃ v w z q, x = some (v, w, z, q) ∧ k v w z q = some r := by
  cases x with
  | none => cases h
  | some v => exact ⟨v.1, v.2.1, v.2.2.1, v.2.2.2, rfl, h⟩
theorem bS_some {α β γ : Type} {x : Option (α ⊕ β)} {k : α → Option γ} {k2 : β → Option γ} {r : γ} (h : bS x k k2 = some r) : (∃ v, x = some (.inl v) ∧ k v = some r) ∨ ∃ v, x = some (.inr v) ∧ k2 v = some r := by
  cases x with
  | none => cases h
  | some v =>
    cases v with
    | inl a => exact Or.inl ⟨a, rfl, h⟩
    | inr b => exact Or.inr ⟨b, rfl, h⟩
theorem zb_nar {v : Int32} (h : v = 0 ∨ v = 1) : vp_nar .boolean v = v := by
  rcases h with rfl | rfl <;> rfl
theorem zb_narrow {v : Int32} (h : v = 0 ∨ v = 1) : narrow .boolean (.int v) = .int v := by
  rcases h with rfl | rfl <;> rfl
theorem zb_fits {v : Int32} (h : v = 0 ∨ v = 1) : fits .boolean (.int v) = true := by
  rcases h with rfl | rfl <;> rfl
theorem tsw_out {x : Int32} {n : Nat} (hn : n < 100) (h : ∀ k : Nat, k < n → ¬ x = nI k) : x.toInt < 0 ∨ (n : Int) - 1 < x.toInt := by
  by_cases h0 : x.toInt < 0
  · exact Or.inl h0
  · by_cases h1 : (n : Int) - 1 < x.toInt
    · exact Or.inr h1
    · exfalso
      refine h x.toInt.toNat (by omega) ?_
      apply Int32.toInt_inj.mp
      rw [nI_toInt (by omega)]
      omega
theorem tsw1_out {x : Int32} {n : Nat} (hn : n < 100) (h : ∀ k : Nat, k < n → ¬ x = nI (k + 1)) : x.toInt < 1 ∨ (n : Int) < x.toInt := by
  by_cases h0 : x.toInt < 1
  · exact Or.inl h0
  · by_cases h1 : (n : Int) < x.toInt
    · exact Or.inr h1
    · exfalso
      refine h (x.toInt.toNat - 1) (by omega) ?_
      apply Int32.toInt_inj.mp
      rw [nI_toInt (by omega)]
      omega
section FVX
variable {ad : Nat → Nat} {rf : Nat → Nat → Option Nat} {M : Mm} {a k : Nat} {ts : List Nat}
theorem fvs_I (h : ts[k]? = some 0) : (fvs ad rf M a 0 ts)[k]? = some (.int (M.1 a k)) := by
  rw [fvs_get ad rf M a ts 0 k 0 h, Nat.zero_add]
  rfl
theorem fvs_J (h : ts[k]? = some 1) : (fvs ad rf M a 0 ts)[k]? = some (.long M.2) := by
  rw [fvs_get ad rf M a ts 0 k 1 h, Nat.zero_add]
  rfl
theorem fvs_R {b : Nat} (h : ts[k]? = some 2) (hr : rf a k = some b) : (fvs ad rf M a 0 ts)[k]? = some (.ref (ad b)) := by
  rw [fvs_get ad rf M a ts 0 k 2 h, Nat.zero_add]
  simp [fvl, hr, va_rf]
theorem fvs_D (h : ts[k]? = some 3) : (fvs ad rf M a 0 ts)[k]? = some (.ref (ad (M.1 a k).toNatClampNeg)) := by
  rw [fvs_get ad rf M a ts 0 k 3 h, Nat.zero_add]
  rfl
theorem fvs_wL_ne {x : Int64} {b : Nat} : ∀ (ts : List Nat) (i : Nat), (∀ t ∈ ts, t ≠ 1) → fvs ad rf (wL M x) b i ts = fvs ad rf M b i ts
  | [], _, _ => rfl
  | t :: ts, i, h => by
    show fvl ad rf (wL M x) b i t :: _ = fvl ad rf M b i t :: _
    rw [fvs_wL_ne ts (i + 1) (fun t ht => h t (List.mem_cons_of_mem _ ht))]
    congr 1
    have := h t List.mem_cons_self
    simp [fvl, wL, this]
theorem fvs_setL (x : Int64) (h : ts[k]? = some 1) (h1 : ∀ j, ts[j]? = some 1 → j = k) : (fvs ad rf M a 0 ts).set k (.long x) = fvs ad rf (wL M x) a 0 ts := by
  refine fvs_ext ad rf rf M (wL M x) a (.long x) k ts 0 (fun j t hj => ?_)
  rw [Nat.zero_add]
  by_cases e : j = k
  · subst e
    rw [h] at hj
    cases hj
    simp [fvl, wL]
  · have ht : t ≠ 1 := fun q => e (h1 j (by rw [hj, q]))
    simp [fvl, wL, e, ht]
end FVX
theorem cof_wL {cy : Nat → ClassId} {ad : Nat → Nat} {kd : Nat → List Nat} {sh : Nat → Nat × Nat} {rf : Nat → Nat → Option Nat} {M : Mm} {x : Int64} {b : Nat} (h : (sh b).1 = 0 → ∀ t ∈ kd (sh b).2, t ≠ 1) : cof cy ad kd sh rf (wL M x) b = cof cy ad kd sh rf M b := by
  by_cases h0 : (sh b).1 = 0
  · have e : sh b = (0, (sh b).2) := Prod.ext h0 rfl
    rw [cof_obj e, cof_obj e, fvs_wL_ne _ _ (h h0)]
  · unfold cof
    simp only [h0, if_false]
    rfl
section FLP
variable {p : Program} {l : Launch} {e : Env} {R : Room} {s : State} {m : MethodId} {args : Array Value} {below : List Frame} {meth : Method} {c : Code} {H : Heap} {locs : List Loc} {cells slots : Nat} {Q : State → Prop}
variable {cc : ByteArray} {pc nL : Nat} {ls : Array Slot} {rest st0 : List Value} {Ts : List Cond} {own : String}
variable {D : va_G} {cy : Nat → ClassId} {ad : Nat → Nat} {kd : Nat → List Nat} {sh : Nat → Nat × Nat} {rf : Nat → Nat → Option Nat} {N : Nat} {A : Nat → Prop} {M : Mm} {a : Nat}
variable {y : MethodName} {bytes : ByteArray} {maxL n index : Nat} {ret : Option FieldType} {ws : List Cond} {rm : Room} {C host : String} {As : List Value} {M' : Mm} {r : Int32} {r8 : Int64}
abbrev PcP (As : List Value) : Array Value → State → Prop := va_Pc As (fun _ => True)
abbrev QcP (r : Int32) : Array Value → State → Outcome → State → Prop := va_Qi (fun (x : Int32) (_ : Unit) => x = r) (fun _ _ => True) (fun _ => False)
theorem PcP.pre : PreS s H (PcP As) As := ⟨fun _ _ _ _ q => ⟨q.1, trivial⟩, fun _ _ _ => ⟨rfl, trivial⟩⟩
theorem fl_runS {Qc : Array Value → State → Outcome → State → Prop} {free : Addr → Prop} (S : CallFix p m c cc nL s args Ts own) (hM : Met l y ws rm (PcP As) Qc 0 0 free) (cw : CallB R s args own index y bytes maxL ret ws rm 0 0 n ∧ (Cond.static y).before args s = true) (hn : As.length = n) (hl : ls.size = nL) (hst : st0 = As.reverse ++ rest) (hr8 : (rest.map fun v => v.category).sum ≤ 8) (hdg : decode cc pc = .ok (.invokestatic index, 3)) (hf : cells ≤ R.cells ∧ slots ≤ R.slots) :
    va_Run p l e R s m args below meth c H locs cells slots 0 0 (F0 m pc ls st0) rest (Qc As.toArray) free :=
  va_runS S hM cw PcP.pre rfl hn hl hst (lv_room hr8) hdg hf
theorem fl_runSN {Qc : Array Value → State → Outcome → State → Prop} {free : Addr → Prop} (S : CallFix p m c cc nL s args Ts own) (hM : Met l y ws rm (PcP As) Qc 0 0 free) (cw : va_CN R s args own index y host bytes maxL ret ws rm 0 0 n ∧ (Cond.static y).before args s = true ∧ True) (hn : As.length = n) (hl : ls.size = nL) (hst : st0 = As.reverse ++ rest) (hr8 : (rest.map fun v => v.category).sum ≤ 8) (hdg : decode cc pc = .ok (.invokestatic index, 3)) (hf : cells ≤ R.cells ∧ slots ≤ R.slots) :
    va_Run p l e R s m args below meth c H locs cells slots 0 0 (F0 m pc ls st0) rest (Qc As.toArray) free :=
  va_runSN S hM cw PcP.pre rfl hn hl hst (lv_room hr8) hdg hf
theorem fl_doneP {a' : Array Value} (hr : va_Run p l e R s m args below meth c H locs cells slots 0 0 (F0 m pc ls st0) rest (QcP r a') (fun _ => False)) (hW : WSt D cy ad kd sh rf N A M s.heap H locs)
    (kk : ∀ (H1 : Heap) (locs1 : List Loc), WSt D cy ad kd sh rf N A M s.heap H1 locs1 → W p l e R s m args below meth c H1 locs1 cells slots Q (F0 m (pc + 3) ls (.int r :: rest))) : W p l e R s m args below meth c H locs cells slots Q (F0 m pc ls st0) :=
  va_calli (A0 := A) (H0 := s.heap) hr hW.2 (fun q _ h => h.elim) (fun q h => h.elim) (fun r1 u t H1 locs1 ht _ hw _ _ hk hS1 => by
    subst hw
    exact kk H1 locs1 ⟨hW.1.kept (fun k q hq => hk q.1 ((hW.1 k q hq).lt) (fun h => h)), hS1⟩)
/-- the same where no world is held -/
theorem fl_doneQ {a' : Array Value} (hr : va_Run p l e R s m args below meth c H locs cells slots 0 0 (F0 m pc ls st0) rest (QcP r a') (fun _ => False)) (hS : va_S A s.heap H locs)
    (kk : ∀ (H1 : Heap) (locs1 : List Loc), va_S A s.heap H1 locs1 → W p l e R s m args below meth c H1 locs1 cells slots Q (F0 m (pc + 3) ls (.int r :: rest))) : W p l e R s m args below meth c H locs cells slots Q (F0 m pc ls st0) :=
  va_calli (A0 := A) (H0 := s.heap) hr hS (fun q _ h => h.elim) (fun q h => h.elim) (fun r1 u t H1 locs1 ht _ hw _ _ _ hS1 => by
    subst hw
    exact kk H1 locs1 hS1)
theorem fl_iret (hexec : p.tables.exec = Jvm.exec) (hb : c.code = cc) (hr : meth.sig.returnType = some .int) (hlocks : meth.locks = false) (hW : WSt D cy ad kd sh rf N (AV ad N) M s.heap H locs) (hdg : decode cc pc = .ok (.ireturn, 1)) :
    W p l e R s m args below meth c H locs cells slots (MQ below (QcI r D cy ad kd sh rf N M) args s cells slots (AV ad N)) (F0 m pc ls [.int r]) :=
  W.iret hexec hb hr (fun t ht _ => ⟨⟨r, (), rfl, rfl, by subst ht; exact hW.1⟩, hW.2.F ht⟩) hW.2.2.2 hdg hlocks
theorem fl_zret (hexec : p.tables.exec = Jvm.exec) (hb : c.code = cc) (hr : meth.sig.returnType = some .boolean) (hlocks : meth.locks = false) (hz : r = 0 ∨ r = 1) (hW : WSt D cy ad kd sh rf N (AV ad N) M s.heap H locs) (hdg : decode cc pc = .ok (.ireturn, 1)) :
    W p l e R s m args below meth c H locs cells slots (MQ below (QcI r D cy ad kd sh rf N M) args s cells slots (AV ad N)) (F0 m pc ls [.int r]) :=
  W.zret hexec hb hr (zb_narrow hz) (fun t ht _ => ⟨⟨r, (), rfl, rfl, by subst ht; exact hW.1⟩, hW.2.F ht⟩) hW.2.2.2 hdg hlocks
theorem fl_lret (hexec : p.tables.exec = Jvm.exec) (hb : c.code = cc) (hr : meth.sig.returnType = some .long) (hlocks : meth.locks = false) (hW : WSt D cy ad kd sh rf N (AV ad N) M s.heap H locs) (hdg : decode cc pc = .ok (.lreturn, 1)) :
    W p l e R s m args below meth c H locs cells slots (MQ below (QcL r8 D cy ad kd sh rf N M) args s cells slots (AV ad N)) (F0 m pc ls [.long r8]) :=
  W.lret hexec hb hr (fun t ht _ => ⟨⟨r8, (), rfl, rfl, by subst ht; exact hW.1⟩, hW.2.F ht⟩) hW.2.2.2 hdg hlocks
theorem fl_vret (hexec : p.tables.exec = Jvm.exec) (hb : c.code = cc) (hr : meth.sig.returnType = none) (hlocks : meth.locks = false) (hW : WSt D cy ad kd sh rf N (AV ad N) M s.heap H locs) (hdg : decode cc pc = .ok (.return_, 1)) :
    W p l e R s m args below meth c H locs cells slots (MQ below (QcV D cy ad kd sh rf N M) args s cells slots (AV ad N)) (F0 m pc ls []) :=
  W.vret hexec hb hr (fun t ht _ => ⟨⟨(), rfl, trivial, by subst ht; exact hW.1⟩, hW.2.F ht⟩) hW.2.2.2 hdg hlocks
theorem fl_pret (hexec : p.tables.exec = Jvm.exec) (hb : c.code = cc) (hr : meth.sig.returnType = some .int) (hlocks : meth.locks = false) (hS : va_S (fun _ => False) s.heap H locs) (hdg : decode cc pc = .ok (.ireturn, 1)) :
    W p l e R s m args below meth c H locs cells slots (MQ below (QcP r) args s cells slots (fun _ => False)) (F0 m pc ls [.int r]) :=
  W.iret hexec hb hr (fun t ht _ => ⟨⟨r, (), rfl, rfl, trivial⟩, hS.F ht⟩) hS.2.2 hdg hlocks
theorem fl_pzret (hexec : p.tables.exec = Jvm.exec) (hb : c.code = cc) (hr : meth.sig.returnType = some .boolean) (hlocks : meth.locks = false) (hz : r = 0 ∨ r = 1) (hS : va_S (fun _ => False) s.heap H locs) (hdg : decode cc pc = .ok (.ireturn, 1)) :
    W p l e R s m args below meth c H locs cells slots (MQ below (QcP r) args s cells slots (fun _ => False)) (F0 m pc ls [.int r]) :=
  W.zret hexec hb hr (zb_narrow hz) (fun t ht _ => ⟨⟨r, (), rfl, rfl, trivial⟩, hS.F ht⟩) hS.2.2 hdg hlocks
end FLP
/-! ===== the two systems' shapes ===== -/
def kdV : Nat → List Nat := fun c => match c with | 0 => [2, 2, 0, 0] | 1 => [2, 2, 2, 0, 0, 0] | 2 => [2, 0, 0] | 3 => [2, 2, 0] | 4 => [2, 0, 0, 0, 0, 0, 0, 0] | 5 => [2, 2, 2, 0, 0, 0, 0, 0] | 6 => [2, 2, 2, 2, 2, 2, 2, 3, 3, 1] | _ => [0, 1, 2, 0, 0, 0, 0, 0, 0, 0, 2, 2, 2, 2, 2, 2, 2, 2, 0, 2, 2, 0, 2, 2, 2]
def shLC : List (Nat × Nat) := [(0, 6), (0, 4), (1, 120), (0, 1), (1, 6), (1, 6), (1, 6), (0, 2), (3, 10), (0, 1), (1, 6), (1, 6), (1, 6), (0, 1), (1, 6), (1, 6), (1, 6), (0, 1), (1, 6), (1, 6), (1, 6), (0, 1), (1, 6), (1, 6), (1, 6), (0, 1), (1, 6), (1, 6), (1, 6), (0, 1), (1, 6), (1, 6), (1, 6), (0, 1), (1, 6), (1, 6), (1, 6), (0, 1), (1, 6), (1, 6), (1, 6), (0, 1), (1, 6), (1, 6), (1, 6), (0, 1), (1, 6), (1, 6), (1, 6), (3, 2), (2, 2), (0, 0), (1, 6), (4, 7), (1, 32), (1, 32), (1, 32), (1, 32), (1, 32), (1, 32), (1, 32), (0, 3), (1, 6), (2, 6), (0, 5), (1, 6), (1, 5), (1, 5), (0, 5), (1, 6), (1, 5), (1, 5), (0, 1), (1, 6), (1, 6), (1, 6), (0, 1), (1, 6), (1, 6), (1, 6)]
def shLM : List (Nat × Nat) := [(0, 7), (1, 120), (1, 8), (1, 6), (1, 10), (1, 10), (1, 21), (1, 42), (2, 2), (1, 210), (1, 6), (1, 6), (1, 6), (1, 6), (1, 6)]
def shC (a : Nat) : Nat × Nat := shLC.getD a (9, 9)
def shM (a : Nat) : Nat × Nat := shLM.getD a (9, 9)
def rfC0 : List (Option Nat) := [some 1, some 3, some 7, some 49, some 50, some 51, some 61, none, none, none]
def rfM0 : List (Option Nat) := [none, none, some 1, none, none, none, none, none, none, none, some 2, some 3, some 4, some 5, some 6, some 7, some 8, some 9, none, some 10, some 11, none, some 12, some 13, some 14]
def rfC (a k : Nat) : Option Nat := if a = 0 then rfC0.getD k none else if a = 8 then some (9 + 4 * k) else if a = 49 then some (72 + 4 * k) else if a = 53 then some (54 + k) else some (a + 1 + k)
def rfM (a k : Nat) : Option Nat := if a = 0 then rfM0.getD k none else none
/-- a Moment's place, a Told's -/
def isM (a : Nat) : Bool := a == 3 || (decide (9 ≤ a) && decide (a < 49) && (a - 9) % 4 == 0) || a == 72 || a == 76
def isT (a : Nat) : Bool := a == 64 || a == 68
theorem isM_lt {a : Nat} (h : isM a = true) : a < 80 := by
  simp [isM] at h
  omega
theorem isM_ok {a : Nat} (h : isM a = true) : (a < 80 ∧ shC a = (0, 1)) ∧ (a + 1 < 80 ∧ shC (a + 1) = (1, 6)) ∧ (a + 2 < 80 ∧ shC (a + 2) = (1, 6)) ∧ (a + 3 < 80 ∧ shC (a + 3) = (1, 6)) ∧ rfC a 0 = some (a + 1) ∧ rfC a 1 = some (a + 2) ∧ rfC a 2 = some (a + 3) := by
  have h2 : a = 3 ∨ a = 72 ∨ a = 76 ∨ ∃ j, j < 10 ∧ a = 9 + 4 * j := by
    simp [isM] at h
    rcases h with ((h | h) | h) | h
    · exact Or.inl h
    · exact Or.inr (Or.inr (Or.inr ⟨(a - 9) / 4, by omega, by omega⟩))
    · exact Or.inr (Or.inl h)
    · exact Or.inr (Or.inr (Or.inl h))
  rcases h2 with rfl | rfl | rfl | ⟨j, hj, rfl⟩
  · decide
  · decide
  · decide
  · have h3 : j = 0 ∨ j = 1 ∨ j = 2 ∨ j = 3 ∨ j = 4 ∨ j = 5 ∨ j = 6 ∨ j = 7 ∨ j = 8 ∨ j = 9 := by omega
    rcases h3 with rfl | rfl | rfl | rfl | rfl | rfl | rfl | rfl | rfl | rfl <;> decide
theorem isT_ok {a : Nat} (h : isT a = true) : (a < 80 ∧ shC a = (0, 5)) ∧ (a + 1 < 80 ∧ shC (a + 1) = (1, 6)) ∧ (a + 2 < 80 ∧ shC (a + 2) = (1, 5)) ∧ (a + 3 < 80 ∧ shC (a + 3) = (1, 5)) ∧ rfC a 0 = some (a + 1) ∧ rfC a 1 = some (a + 2) ∧ rfC a 2 = some (a + 3) := by
  have h2 : a = 64 ∨ a = 68 := by simpa [isT] using h
  rcases h2 with rfl | rfl <;> decide
theorem isM_mom {j : Nat} (h : j < 10) : isM (9 + 4 * j) = true := by
  simp [isM]
  omega
theorem isM_img {j : Nat} (h : j < 2) : isM (72 + 4 * j) = true := by
  have : j = 0 ∨ j = 1 := by omega
  rcases this with rfl | rfl <;> rfl
theorem most_ok {j : Nat} (h : j < 7) : 54 + j < 80 ∧ shC (54 + j) = (1, 32) := by
  have : ∀ j, j < 7 → 54 + j < 80 ∧ shC (54 + j) = (1, 32) := by decide +kernel
  exact this j h
theorem vp_lt {i : Int32} {n : Nat} (h : vp_in i n) : i.toNatClampNeg < n := Nat.not_le.mp fun q => h (Or.inr q)
theorem sC_0 : shC 0 = (0, 6) := rfl
theorem lC_0 : 0 < 80 := by decide
theorem sC_1 : shC 1 = (0, 4) := rfl
theorem lC_1 : 1 < 80 := by decide
theorem sC_2 : shC 2 = (1, 120) := rfl
theorem lC_2 : 2 < 80 := by decide
theorem sC_3 : shC 3 = (0, 1) := rfl
theorem lC_3 : 3 < 80 := by decide
theorem sC_4 : shC 4 = (1, 6) := rfl
theorem lC_4 : 4 < 80 := by decide
theorem sC_5 : shC 5 = (1, 6) := rfl
theorem lC_5 : 5 < 80 := by decide
theorem sC_6 : shC 6 = (1, 6) := rfl
theorem lC_6 : 6 < 80 := by decide
theorem sC_7 : shC 7 = (0, 2) := rfl
theorem lC_7 : 7 < 80 := by decide
theorem sC_8 : shC 8 = (3, 10) := rfl
theorem lC_8 : 8 < 80 := by decide
theorem sC_9 : shC 9 = (0, 1) := rfl
theorem lC_9 : 9 < 80 := by decide
theorem sC_10 : shC 10 = (1, 6) := rfl
theorem lC_10 : 10 < 80 := by decide
theorem sC_11 : shC 11 = (1, 6) := rfl
theorem lC_11 : 11 < 80 := by decide
theorem sC_12 : shC 12 = (1, 6) := rfl
theorem lC_12 : 12 < 80 := by decide
theorem sC_13 : shC 13 = (0, 1) := rfl
theorem lC_13 : 13 < 80 := by decide
theorem sC_14 : shC 14 = (1, 6) := rfl
theorem lC_14 : 14 < 80 := by decide
theorem sC_15 : shC 15 = (1, 6) := rfl
theorem lC_15 : 15 < 80 := by decide
theorem sC_16 : shC 16 = (1, 6) := rfl
theorem lC_16 : 16 < 80 := by decide
theorem sC_17 : shC 17 = (0, 1) := rfl
theorem lC_17 : 17 < 80 := by decide
theorem sC_18 : shC 18 = (1, 6) := rfl
theorem lC_18 : 18 < 80 := by decide
theorem sC_19 : shC 19 = (1, 6) := rfl
theorem lC_19 : 19 < 80 := by decide
theorem sC_20 : shC 20 = (1, 6) := rfl
theorem lC_20 : 20 < 80 := by decide
theorem sC_21 : shC 21 = (0, 1) := rfl
theorem lC_21 : 21 < 80 := by decide
theorem sC_22 : shC 22 = (1, 6) := rfl
theorem lC_22 : 22 < 80 := by decide
theorem sC_23 : shC 23 = (1, 6) := rfl
theorem lC_23 : 23 < 80 := by decide
theorem sC_24 : shC 24 = (1, 6) := rfl
theorem lC_24 : 24 < 80 := by decide
theorem sC_25 : shC 25 = (0, 1) := rfl
theorem lC_25 : 25 < 80 := by decide
theorem sC_26 : shC 26 = (1, 6) := rfl
theorem lC_26 : 26 < 80 := by decide
theorem sC_27 : shC 27 = (1, 6) := rfl
theorem lC_27 : 27 < 80 := by decide
theorem sC_28 : shC 28 = (1, 6) := rfl
theorem lC_28 : 28 < 80 := by decide
theorem sC_29 : shC 29 = (0, 1) := rfl
theorem lC_29 : 29 < 80 := by decide
theorem sC_30 : shC 30 = (1, 6) := rfl
theorem lC_30 : 30 < 80 := by decide
theorem sC_31 : shC 31 = (1, 6) := rfl
theorem lC_31 : 31 < 80 := by decide
theorem sC_32 : shC 32 = (1, 6) := rfl
theorem lC_32 : 32 < 80 := by decide
theorem sC_33 : shC 33 = (0, 1) := rfl
theorem lC_33 : 33 < 80 := by decide
theorem sC_34 : shC 34 = (1, 6) := rfl
theorem lC_34 : 34 < 80 := by decide
theorem sC_35 : shC 35 = (1, 6) := rfl
theorem lC_35 : 35 < 80 := by decide
theorem sC_36 : shC 36 = (1, 6) := rfl
theorem lC_36 : 36 < 80 := by decide
theorem sC_37 : shC 37 = (0, 1) := rfl
theorem lC_37 : 37 < 80 := by decide
theorem sC_38 : shC 38 = (1, 6) := rfl
theorem lC_38 : 38 < 80 := by decide
theorem sC_39 : shC 39 = (1, 6) := rfl
theorem lC_39 : 39 < 80 := by decide
theorem sC_40 : shC 40 = (1, 6) := rfl
theorem lC_40 : 40 < 80 := by decide
theorem sC_41 : shC 41 = (0, 1) := rfl
theorem lC_41 : 41 < 80 := by decide
theorem sC_42 : shC 42 = (1, 6) := rfl
theorem lC_42 : 42 < 80 := by decide
theorem sC_43 : shC 43 = (1, 6) := rfl
theorem lC_43 : 43 < 80 := by decide
theorem sC_44 : shC 44 = (1, 6) := rfl
theorem lC_44 : 44 < 80 := by decide
theorem sC_45 : shC 45 = (0, 1) := rfl
theorem lC_45 : 45 < 80 := by decide
theorem sC_46 : shC 46 = (1, 6) := rfl
theorem lC_46 : 46 < 80 := by decide
theorem sC_47 : shC 47 = (1, 6) := rfl
theorem lC_47 : 47 < 80 := by decide
theorem sC_48 : shC 48 = (1, 6) := rfl
theorem lC_48 : 48 < 80 := by decide
theorem sC_49 : shC 49 = (3, 2) := rfl
theorem lC_49 : 49 < 80 := by decide
theorem sC_50 : shC 50 = (2, 2) := rfl
theorem lC_50 : 50 < 80 := by decide
theorem sC_51 : shC 51 = (0, 0) := rfl
theorem lC_51 : 51 < 80 := by decide
theorem sC_52 : shC 52 = (1, 6) := rfl
theorem lC_52 : 52 < 80 := by decide
theorem sC_53 : shC 53 = (4, 7) := rfl
theorem lC_53 : 53 < 80 := by decide
theorem sC_54 : shC 54 = (1, 32) := rfl
theorem lC_54 : 54 < 80 := by decide
theorem sC_55 : shC 55 = (1, 32) := rfl
theorem lC_55 : 55 < 80 := by decide
theorem sC_56 : shC 56 = (1, 32) := rfl
theorem lC_56 : 56 < 80 := by decide
theorem sC_57 : shC 57 = (1, 32) := rfl
theorem lC_57 : 57 < 80 := by decide
theorem sC_58 : shC 58 = (1, 32) := rfl
theorem lC_58 : 58 < 80 := by decide
theorem sC_59 : shC 59 = (1, 32) := rfl
theorem lC_59 : 59 < 80 := by decide
theorem sC_60 : shC 60 = (1, 32) := rfl
theorem lC_60 : 60 < 80 := by decide
theorem sC_61 : shC 61 = (0, 3) := rfl
theorem lC_61 : 61 < 80 := by decide
theorem sC_62 : shC 62 = (1, 6) := rfl
theorem lC_62 : 62 < 80 := by decide
theorem sC_63 : shC 63 = (2, 6) := rfl
theorem lC_63 : 63 < 80 := by decide
theorem sC_64 : shC 64 = (0, 5) := rfl
theorem lC_64 : 64 < 80 := by decide
theorem sC_65 : shC 65 = (1, 6) := rfl
theorem lC_65 : 65 < 80 := by decide
theorem sC_66 : shC 66 = (1, 5) := rfl
theorem lC_66 : 66 < 80 := by decide
theorem sC_67 : shC 67 = (1, 5) := rfl
theorem lC_67 : 67 < 80 := by decide
theorem sC_68 : shC 68 = (0, 5) := rfl
theorem lC_68 : 68 < 80 := by decide
theorem sC_69 : shC 69 = (1, 6) := rfl
theorem lC_69 : 69 < 80 := by decide
theorem sC_70 : shC 70 = (1, 5) := rfl
theorem lC_70 : 70 < 80 := by decide
theorem sC_71 : shC 71 = (1, 5) := rfl
theorem lC_71 : 71 < 80 := by decide
theorem sC_72 : shC 72 = (0, 1) := rfl
theorem lC_72 : 72 < 80 := by decide
theorem sC_73 : shC 73 = (1, 6) := rfl
theorem lC_73 : 73 < 80 := by decide
theorem sC_74 : shC 74 = (1, 6) := rfl
theorem lC_74 : 74 < 80 := by decide
theorem sC_75 : shC 75 = (1, 6) := rfl
theorem lC_75 : 75 < 80 := by decide
theorem sC_76 : shC 76 = (0, 1) := rfl
theorem lC_76 : 76 < 80 := by decide
theorem sC_77 : shC 77 = (1, 6) := rfl
theorem lC_77 : 77 < 80 := by decide
theorem sC_78 : shC 78 = (1, 6) := rfl
theorem lC_78 : 78 < 80 := by decide
theorem sC_79 : shC 79 = (1, 6) := rfl
theorem lC_79 : 79 < 80 := by decide
theorem sM_0 : shM 0 = (0, 7) := rfl
theorem lM_0 : 0 < 15 := by decide
theorem sM_1 : shM 1 = (1, 120) := rfl
theorem lM_1 : 1 < 15 := by decide
theorem sM_2 : shM 2 = (1, 8) := rfl
theorem lM_2 : 2 < 15 := by decide
theorem sM_3 : shM 3 = (1, 6) := rfl
theorem lM_3 : 3 < 15 := by decide
theorem sM_4 : shM 4 = (1, 10) := rfl
theorem lM_4 : 4 < 15 := by decide
theorem sM_5 : shM 5 = (1, 10) := rfl
theorem lM_5 : 5 < 15 := by decide
theorem sM_6 : shM 6 = (1, 21) := rfl
theorem lM_6 : 6 < 15 := by decide
theorem sM_7 : shM 7 = (1, 42) := rfl
theorem lM_7 : 7 < 15 := by decide
theorem sM_8 : shM 8 = (2, 2) := rfl
theorem lM_8 : 8 < 15 := by decide
theorem sM_9 : shM 9 = (1, 210) := rfl
theorem lM_9 : 9 < 15 := by decide
theorem sM_10 : shM 10 = (1, 6) := rfl
theorem lM_10 : 10 < 15 := by decide
theorem sM_11 : shM 11 = (1, 6) := rfl
theorem lM_11 : 11 < 15 := by decide
theorem sM_12 : shM 12 = (1, 6) := rfl
theorem lM_12 : 12 < 15 := by decide
theorem sM_13 : shM 13 = (1, 6) := rfl
theorem lM_13 : 13 < 15 := by decide
theorem sM_14 : shM 14 = (1, 6) := rfl
theorem lM_14 : 14 < 15 := by decide
theorem wLC : ∀ j, j < 80 → j ≠ 0 → (shC j).1 = 0 → ∀ t ∈ kdV (shC j).2, t ≠ 1 := by decide +kernel
theorem wLM : ∀ j, j < 15 → j ≠ 0 → (shM j).1 = 0 → ∀ t ∈ kdV (shM j).2, t ≠ 1 := by decide +kernel
theorem u1_of {ts : List Nat} {k : Nat} (h : ∀ j, j < ts.length → ts[j]? = some 1 → j = k) : ∀ j, ts[j]? = some 1 → j = k := fun j hj => h j (List.getElem?_eq_some_iff.mp hj).1 hj
theorem uLC : ∀ j, (kdV 6)[j]? = some 1 → j = 9 := u1_of (by decide +kernel)
theorem uLM : ∀ j, (kdV 7)[j]? = some 1 → j = 1 := u1_of (by decide +kernel)
theorem vp_dec {i : Int32} {n : Nat} (h : ¬ (i < 0 ∨ n ≤ i.toNatClampNeg)) : vp_in i n := h
theorem lk_out {x : Int32} (h0 : ¬ x = 97) (h1 : ¬ x = 108) (h2 : ¬ x = 109) (h3 : ¬ x = 119) : Op.lookupswitch.offset [(97, 44), (108, 62), (109, 56), (119, 50)] 68 x.toInt = 68 := by
  have g : ∀ z : Int32, ¬ x = z → ¬ (z.toInt = x.toInt) := fun z h e => h (Int32.toInt_inj.mp e.symm)
  have g0 := g 97 h0
  have g1 := g 108 h1
  have g2 := g 109 h2
  have g3 := g 119 h3
  have e0 : (97 : Int32).toInt = 97 := by decide
  have e1 : (108 : Int32).toInt = 108 := by decide
  have e2 : (109 : Int32).toInt = 109 := by decide
  have e3 : (119 : Int32).toInt = 119 := by decide
  rw [e0] at g0
  rw [e1] at g1
  rw [e2] at g2
  rw [e3] at g3
  simp [Op.lookupswitch.offset, g0, g1, g2, g3]
