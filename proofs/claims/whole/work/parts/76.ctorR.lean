/-! ===== a new Moment; rows of references ===== -/
def rfMo (rf : Nat → Nat → Option Nat) (N : Nat) : Nat → Nat → Option Nat := upR (upR (upR rf N 0 (N + 1)) N 1 (N + 2)) N 2 (N + 3)
theorem PcG.blind {As : List Value} {D : va_G} {cy : Nat → ClassId} {ad : Nat → Nat} {sh : Nat → Nat × Nat} {rf : Nat → Nat → Option Nat} {N : Nat} {M : Mm} {sz : Nat} : FrameBlind (PcG As D cy ad sh rf N M sz) := fun a U g mk q => by
  obtain ⟨q0, q1, q2, q3, q4⟩ := q
  exact ⟨q0, q1, q2, va_K.moved (u := U) (U := U.calling g mk a) (Vm.Alike.refl U.vm) q3, Nst.same (u := U) (U := U.calling g mk a) rfl q4⟩
theorem D_mono {A B : Nat → Prop} {ws : va_W} (h : va_D A ws) (hAB : ∀ q, A q → B q) : va_D B ws := ⟨h.1, fun k q hk => hAB _ (h.2 k q hk)⟩
section MKM
variable {p : Program} {l : Launch} {e : Env} {R : Room} {s : State} {m : MethodId} {args : Array Value} {below : List Frame} {meth : Method} {c : Code} {H : Heap} {locs : List Loc} {cells slots : Nat} {Q : State → Prop}
variable {cc : ByteArray} {pc nL : Nat} {ls : Array Slot} {rest st0 : List Value} {Ts : List Cond} {own host : String}
variable {D : va_G} {cy : Nat → ClassId} {ad : Nat → Nat} {rf : Nat → Nat → Option Nat} {N : Nat} {A : Nat → Prop} {M : Mm} {a : Nat}
theorem fg_mkMoment (S : CallFix p m c cc nL s args Ts own) (hK : va_K D vwCl (tysV cy) s) (hN : Nst s) (hq : ∀ w ∈ GW, w.before args s = true) (hin : ∀ w ∈ wsX10, w ∈ Ts) (hG : GoodIn Ts vX1_init) {i1 i2 : Nat} (hlink : (Cond.classLink own i1 RX1).before args s = true) (hnest : va_Nw (.methodLinkNest own i2 yX1_init host) s) (h0 : shC N = (0, 1)) (h1 : shC (N + 1) = (1, 6)) (h2 : shC (N + 2) = (1, 6)) (h3 : shC (N + 3) = (1, 6)) (hr : ∀ k, rf N k = none) (hM : ∀ x, N ≤ x → ∀ j, M.1 x j = 0) (hcl : ∀ x y b, rf x y = some b → b < N) (hA : ∀ q, s.heap.size ≤ q → A q) (hcells : cells + 4 ≤ R.cells) (hslots : slots + 24 ≤ R.slots) (hframes : 2 ≤ R.frames) (hlocals : 32 ≤ R.locals) (hl : ls.size = nL) (hr8 : (rest.map fun v => v.category).sum ≤ 7) (hW : WSt D cy ad kdI shC rf N A M s.heap H locs) (hD : va_D A (wsF ad (cof cy ad kdI shC rf M) N)) (d1 : decode cc pc = .ok (.new i1, 3)) (d2 : decode cc (pc + 3) = .ok (.dup, 1)) (d3 : decode cc (pc + 3 + 1) = .ok (.invokespecial i2, 3))
    (kk : ∀ (ad' : Nat → Nat) (H1 : Heap) (locs1 : List Loc), (∀ k, k < N → ad' k = ad k) → WSt D cy ad' kdI shC (rfMo rf N) (N + 4) A M s.heap H1 locs1 → va_D A (wsF ad' (cof cy ad' kdI shC (rfMo rf N) M) (N + 4)) → W p l e R s m args below meth c H1 locs1 (cells + 1 + 3) (slots + 6 + 18) Q (F0 m (pc + 3 + 1 + 3) ls (.ref (ad' N) :: rest))) : W p l e R s m args below meth c H locs cells slots Q (F0 m pc ls rest) := by
  have hf : fvs ad rf M N 0 (kdI 1) = [.null, .null, .null, .int 0, .int 0, .int 0] := by
    show [fvl ad rf M N 0 2, fvl ad rf M N 1 2, fvl ad rf M N 2 2, fvl ad rf M N 3 0, fvl ad rf M N 4 0, fvl ad rf M N 5 0] = _
    simp [fvl, hr, hM N (Nat.le_refl _), va_rf]
  refine fg_new S hK hin tyX1 tyX1_ok hlink (hq _ z_1_55) (hq _ z_1_3) rfl h0 (fun j hj => by
    rw [hf]
    have : j = 0 ∨ j = 1 ∨ j = 2 ∨ j = 3 ∨ j = 4 ∨ j = 5 := by omega
    rcases this with rfl | rfl | rfl | rfl | rfl | rfl <;> rfl) kdI_lt hcl hA (by omega) (by omega) hW hD d1 (fun q H hW hD => ?_)
  refine lv_dup S.1 S.2.1 d2 rfl ?_
  have f1 : upA ad N q N = q := upA_v _ _ _
  have g1 : ∀ k, k < N → upA ad N q k = ad k := fun k hk => upA_k _ _ _ (by omega)
  generalize upA ad N q = ad1 at hW hD f1 g1
  subst f1
  have hm := kX1_init l (D := D) (cy := cy) (ad := ad1) N h0 h1 h2 h3 rf M (D_J hD) (fun x y b e => by have := hcl x y b e; omega) (fun x hx j => hM x (by omega) j) H.size
  have hAA : ∀ q, AG ad1 (N + 1) H.size q → A q := fun q h => by
    rcases h with ⟨k, hk, rfl⟩ | h
    · exact D_A hD k hk
    · exact hA q (Nat.le_trans hW.2.1 h)
  refine va_callv (va_runIN S hm ⟨va_cnB 0 S.2.2.2.2 hG rfl rfl rfl hnest (hq _ z_1_3) (by decide +kernel) ⟨by show 1 + 1 ≤ R.frames; omega, by show 8 + (1 + 11) + 12 ≤ R.locals; omega⟩, rfl, hq _ z_1_57⟩ ⟨PcG.blind, fun U hU hWm => ⟨rfl, by rw [hU], by rw [hU]; exact hW.1, va_K.moved hWm.alike hK, Nst.warm hWm hN⟩⟩ rfl rfl hl rfl (by
      show 2 * 0 + ((Value.ref (ad1 N) :: rest).map fun v => v.category).sum ≤ 8
      simp only [List.map_cons, List.sum_cons]
      have : (Value.ref (ad1 N)).category = 1 := rfl
      omega) d3 ⟨by show cells + 1 + 3 ≤ R.cells; omega, by show slots + 6 + 18 ≤ R.slots; omega⟩) hW.2 (fun q _ h => hAA q h) hAA (fun ad2 t H1 locs1 ht _ hp hB _ _ hS1 => ?_)
  rw [← hp N (by omega)]
  exact kk ad2 H1 locs1 (fun k hk => (hp k (by omega)).trans (g1 k hk)) ⟨by rw [← ht]; exact hB.1, hS1⟩ (D_mono hB.2 hAA)
theorem fg_newR (S : CallFix p m c cc nL s args Ts own) (hK : va_K D vwCl (tysV cy) s) (hO : va_AO RX1 s) {i1 : Nat} (hlink : (Cond.classLink own i1 RX1).before args s = true) {n : Nat} {z : Int32} (hz : ¬ z < 0) (hzn : z.toNatClampNeg = n) (hsh : shC N = (3, n)) (hr : ∀ k, rf N k = none) (hcl : ∀ a k b, rf a k = some b → b < N) (hb : n * 4 ≤ 536870912) (hA : ∀ q, s.heap.size ≤ q → A q) (hcells : cells + 1 ≤ R.cells) (hslots : slots + n ≤ R.slots) (hW : WSt D cy ad kdI shC rf N A M s.heap H locs) (hD : va_D A (wsF ad (cof cy ad kdI shC rf M) N)) (hdg : decode cc pc = .ok (.anewarray i1, 3))
    (kk : ∀ (q : Nat) (H1 : Heap), WSt D cy (upA ad N q) kdI shC rf (N + 1) A M s.heap H1 locs → va_D A (wsF (upA ad N q) (cof cy (upA ad N q) kdI shC rf M) (N + 1)) → W p l e R s m args below meth c H1 locs (cells + 1) (slots + n) Q (F0 m (pc + 3) ls (.ref q :: rest))) : W p l e R s m args below meth c H locs cells slots Q (F0 m pc ls (.int z :: rest)) := by
  refine va_newq S.1 S.2.1 S.2.2.2.1 hlink hO hK hW.1 hD hW.2 hA hz hzn hb hcells hslots hdg (fun q cA H1 hK' hP' hD' hS' => ?_)
  have hcy : cA = cy 2 := by
    obtain ⟨kA, comp, -, -, -, e1⟩ := (hK'.2 4 (cA, .object RX1) rfl).2
    obtain ⟨kA', comp', -, -, -, e2⟩ := (hK.2 2 (cy 2, .object RX1) rfl).2
    exact Option.some.inj (e1.symm.trans e2)
  subst hcy
  have hc : cof cy ad kdI shC rf M N = .inl (cy 2, n, .inr (.inr (.inr (.inr (fun _ => none))))) := by
    rw [cof_R hsh, show (fun j => (rf N j).map ad) = fun _ => none from funext fun j => by rw [hr j]; rfl]
  refine kk q H1 ⟨?_, hS'⟩ ?_
  · rw [wsF_up kdI_lt hcl, hc]
    exact hP'
  · rw [wsF_up kdI_lt hcl, hc]
    exact hD'
theorem fg_aast (S : CallFix p m c cc nL s args Ts own) (hK : va_K D vwCl (tysV cy) s) (hJ : Inj ad N) (hA : ∀ k, k < N → A (ad k)) {n b h v : Nat} (ha : a < N) (hsh : shC a = (3, n)) (hb : b < N) (hsb : shC b = (0, 1)) (hh : ad a = h) (hv : ad b = v) {i : Int32} (hin : vp_in i n) (hW : WSt D cy ad kdI shC rf N A M s.heap H locs) (hdg : decode cc pc = .ok (.aastore, 1))
    (kk : ∀ (H1 : Heap) (locs1 : List Loc), WSt D cy ad kdI shC (upR rf a i.toNatClampNeg b) N A M s.heap H1 locs1 → W p l e R s m args below meth c H1 locs1 cells slots Q (F0 m (pc + 1) ls rest)) : W p l e R s m args below meth c H locs cells slots Q (F0 m pc ls (.ref v :: .int i :: .ref h :: rest)) := by
  subst hh
  subst hv
  refine va_astq S.1 S.2.1 hK hW.1 (wsF_D hJ hA) hW.2 a 2 b 1 (r := (RX1, TX1, 6)) (f := fun j => (rf a j).map ad) (by rw [wsF_get ha, cof_R hsh]) rfl (by rw [wsF_get hb, cof_obj hsb]) rfl hin hdg (fun H1 locs1 hP hD hS => kk H1 locs1 ⟨?_, hS⟩)
  have hu : va_up (fun j => (rf a j).map ad) i.toNatClampNeg (some (ad b)) = fun j => (upR rf a i.toNatClampNeg b a j).map ad := by
    funext j
    unfold va_up
    by_cases e : j = i.toNatClampNeg
    · rw [if_pos e, e, upR_v]
      rfl
    · rw [if_neg e, upR_o _ _ _ _ (Or.inr e)]
  rw [hu, wsF_set (cg := cof cy ad kdI shC (upR rf a i.toNatClampNeg b) M) (by rw [cof_R hsh]) (fun j _ hj => cof_rf (fun y => upR_o _ _ _ _ (Or.inl hj)))] at hP
  exact hP
end MKM
