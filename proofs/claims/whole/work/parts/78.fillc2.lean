/-! ===== Filling's constructor ===== -/
def rfF (rf : Nat → Nat → Option Nat) : Nat → Nat → Option Nat := fun x y => if x = 53 then (if y < 7 then some (54 + y) else none) else rf x y
theorem wsF_add (ad : Nat → Nat) (cf : Nat → va_E) (N k : Nat) : wsF ad cf (N + k) = wsF ad cf N ++ (List.range k).map (fun j => (ad (N + j), cf (N + j))) := by
  unfold wsF
  rw [List.range_add, List.map_append, List.map_map]
  rfl
section MNA
variable {p : Program} {l : Launch} {e : Env} {R : Room} {s : State} {m : MethodId} {args : Array Value} {below : List Frame} {meth : Method} {c : Code} {H : Heap} {locs : List Loc} {cells slots : Nat} {Q : State → Prop}
variable {cc : ByteArray} {pc nL : Nat} {ls : Array Slot} {rest st0 : List Value} {Ts : List Cond} {own host : String}
variable {D : va_G} {cy : Nat → ClassId} {ad : Nat → Nat} {rf : Nat → Nat → Option Nat} {A : Nat → Prop} {M : Mm} {a : Nat}
theorem fg_newM (S : CallFix p m c cc nL s args Ts own) (hK : va_K D vwCl (tysV cy) s) (hO : va_AOA .int s) {i1 : Nat} (hlink : (Cond.classLink own i1 "[[I").before args s = true) (harr : (Cond.arrayClass .int).before args s = true) (hM : ∀ x, 53 ≤ x → ∀ j, M.1 x j = 0) (hcl : ∀ a k b, rf a k = some b → b < 53) (hA : ∀ q, s.heap.size ≤ q → A q) (hcells : cells + (1 + 7) ≤ R.cells) (hslots : slots + (7 + 7 * 32) ≤ R.slots) (hW : WSt D cy ad kdI shC rf 53 A M s.heap H locs) (hD : va_D A (wsF ad (cof cy ad kdI shC rf M) 53)) (hdg : decode cc pc = .ok (.multianewarray i1 2, 4))
    (kk : ∀ (ad' : Nat → Nat) (H1 : Heap), (∀ k, k < 53 → ad' k = ad k) → WSt D cy ad' kdI shC (rfF rf) 61 A M s.heap H1 locs → va_D A (wsF ad' (cof cy ad' kdI shC (rfF rf) M) 61) → W p l e R s m args below meth c H1 locs (cells + 1 + 7) (slots + 7 + 7 * 32) Q (F0 m (pc + 4) ls (.ref (ad' 53) :: rest))) : W p l e R s m args below meth c H locs cells slots Q (F0 m pc ls (.int 32 :: .int 7 :: rest)) := by
  have e0 : wsF ad (cof cy ad kdI shC rf M) 53 ++ va_pl [] (fun _ => .inl (cy 0, 32, .inl (fun _ => 0))) = wsF ad (cof cy ad kdI shC rf M) 53 := List.append_nil _
  refine va_mna (X := wsF ad (cof cy ad kdI shC rf M) 53) (L := []) (f := fun _ => .inl (cy 0, 32, .inl (fun _ => 0))) (ty := .int) (cy := cy 0) (N' := 7) (K' := 32) (z := (32, .inl (fun _ => 0))) S.1 S.2.1 S.2.2.2.1 hlink hO harr (hK.2 0 _ rfl).2 hK (by rw [e0]; exact hW.1) (by rw [e0]; exact hD) hW.2 hA (by decide) (by decide) rfl rfl (by decide) (by decide) (by decide) rfl rfl hcells hslots (fun c => rfl) hdg (fun q r cA H1 hr1 hr2 hK' hP' hD' hS' => ?_)
  have hcy : cA = cy 3 := Option.some.inj ((hK'.2 4 (cA, .array .int) rfl).2.symm.trans (hK.2 3 (cy 3, .array .int) rfl).2)
  subst hcy
  have hag : ∀ k, k < 53 → (fun k => if k < 53 then ad k else if k = 53 then q else r (k - 54)) k = ad k := fun k hk => if_pos hk
  have h53 : (fun k => if k < 53 then ad k else if k = 53 then q else r (k - 54)) 53 = q := rfl
  have hrow : ∀ j, (fun k => if k < 53 then ad k else if k = 53 then q else r (k - 54)) (53 + 1 + j) = r j := fun j => by
    show (if 53 + 1 + j < 53 then ad (53 + 1 + j) else if 53 + 1 + j = 53 then q else r (53 + 1 + j - 54)) = r j
    rw [if_neg (by omega), if_neg (by omega), show 53 + 1 + j - 54 = j by omega]
  generalize (fun k => if k < 53 then ad k else if k = 53 then q else r (k - 54)) = ad' at hag h53 hrow
  have hlist : wsF ad' (cof cy ad' kdI shC (rfF rf) M) 61 = (wsF ad (cof cy ad kdI shC rf M) 53 ++ [(q, .inl (cy 3, 7, .inr (.inr (.inr (.inr (fun i => if i < 7 then some (r i) else none))))))]) ++ va_pl ([] ++ (List.range 7).map r) (vr_up (fun _ => .inl (cy 0, 32, .inl (fun _ => 0))) ((List.range 7).map r) (.inl (cy 0, (32, .inl (fun _ => 0))))) := by
    rw [show (61 : Nat) = 53 + 1 + 7 from rfl, wsF_add, ← wsF_push]
    have p1 : wsF ad' (cof cy ad' kdI shC (rfF rf) M) 53 = wsF ad (cof cy ad kdI shC rf M) 53 := by
      apply List.map_congr_left
      intro k hk
      have hk' := List.mem_range.mp hk
      rw [hag k hk', cof_rf (rf := rf) (rf' := rfF rf) (fun y => if_neg (by omega)), cof_ad (fun j b e => hag b (hcl _ _ _ e)) kdI_lt]
    have p2 : cof cy ad' kdI shC (rfF rf) M 53 = .inl (cy 3, 7, .inr (.inr (.inr (.inr (fun i => if i < 7 then some (r i) else none))))) := by
      rw [cof_G (show shC 53 = (4, 7) from rfl), show (fun j => (rfF rf 53 j).map ad') = (fun i => if i < 7 then some (r i) else none) from funext fun j => by
        show (if 53 = 53 then (if j < 7 then some (54 + j) else none) else rf 53 j).map ad' = _
        rw [if_pos rfl]
        by_cases h : j < 7
        · rw [if_pos h, if_pos h, Option.map_some, show 54 + j = 53 + 1 + j by omega, hrow]
        · rw [if_neg h, if_neg h]
          rfl]
    rw [p1, p2, h53]
    congr 1
    unfold va_pl
    rw [List.nil_append, List.map_map]
    apply List.map_congr_left
    intro j hj
    have hj' := List.mem_range.mp hj
    have hs : shC (53 + 1 + j) = (1, 32) := by
      have : j = 0 ∨ j = 1 ∨ j = 2 ∨ j = 3 ∨ j = 4 ∨ j = 5 ∨ j = 6 := by omega
      rcases this with rfl | rfl | rfl | rfl | rfl | rfl | rfl <;> rfl
    show (ad' (53 + 1 + j), cof cy ad' kdI shC (rfF rf) M (53 + 1 + j)) = (r j, vr_up _ _ _ (r j))
    rw [hrow, cof_I hs, vr_up_in (List.mem_map.mpr ⟨j, hj, rfl⟩), show M.1 (53 + 1 + j) = fun _ => 0 from funext (hM _ (by omega))]
  rw [← h53]
  exact kk ad' H1 hag ⟨by rw [hlist]; exact hP', hS'⟩ (by rw [hlist]; exact hD')
end MNA
