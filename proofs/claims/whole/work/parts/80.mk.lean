/-! ===== a new object of any class: new, dup, its constructor ===== -/
section MK
variable {p : Program} {l : Launch} {e : Env} {R : Room} {s : State} {m : MethodId} {args : Array Value} {below : List Frame} {meth : Method} {c : Code} {H : Heap} {locs : List Loc} {cells slots : Nat} {Q : State → Prop}
variable {cc : ByteArray} {pc nL : Nat} {ls : Array Slot} {rest st0 : List Value} {Ts : List Cond} {own host : String}
variable {D : va_G} {cy : Nat → ClassId} {ad : Nat → Nat} {rf rf' : Nat → Nat → Option Nat} {N N' : Nat} {A : Nat → Prop} {M M' : Mm} {a : Nat}
theorem fg_mk (S : CallFix p m c cc nL s args Ts own) (hK : va_K D vwCl (tysV cy) s) {C : String} {T : u_T} {NF ci i1 i2 : Nat} (hin : ∀ w ∈ u_ws C T NF, w ∈ Ts) (ty : Nat → FieldType) (hty : ∀ k, k < NF → parseFieldDescriptor (T k).2.2.1 = some (ty k)) (hlink : (Cond.classLink own i1 C).before args s = true) (hinst : (Cond.instantiable C NF).before args s = true) (hini : (Cond.initialized C).before args s = true) (hc : vwCl[ci]? = some (C, T, NF)) (hsh : shC N = (0, ci)) (hfs : ∀ j, j < NF → defaultValue (ty j) = vp_V (fvs ad rf M N 0 (kdI ci)) j) (hcl : ∀ x y b, rf x y = some b → b < N) (hA : ∀ q, s.heap.size ≤ q → A q)
    {y : MethodName} {bytes : ByteArray} {maxL mc ms : Nat} {ws : List Cond} {rm : Room} {Pc : (Nat → Nat) → Nat → Array Value → State → Prop}
    (hm : ∀ (ad1 : Nat → Nat) (sz : Nat), Inj ad1 (N + 1) → Met l y ws rm (Pc ad1 sz) (QvG D cy ad1 shC rf' (N + 1) N' M' sz) mc ms (AG ad1 (N + 1) sz))
    (hp : ∀ (ad1 : Nat → Nat) (H : Heap), va_P D vwCl (wsF ad1 (cof cy ad1 kdI shC rf M) (N + 1)) H → PreS s H (Pc ad1 H.size) [.ref (ad1 N)])
    (cw : va_CN R s args own i2 y host bytes maxL none ws rm mc ms 0) (hy : y.name = "<init>") (hin2 : (Cond.instanceMethod y).before args s = true)
    (hcells : cells + 1 + mc ≤ R.cells) (hslots : slots + NF + ms ≤ R.slots) (hl : ls.size = nL) (hr8 : (rest.map fun v => v.category).sum ≤ 7) (hW : WSt D cy ad kdI shC rf N A M s.heap H locs) (hD : va_D A (wsF ad (cof cy ad kdI shC rf M) N)) (d1 : decode cc pc = .ok (.new i1, 3)) (d2 : decode cc (pc + 3) = .ok (.dup, 1)) (d3 : decode cc (pc + 3 + 1) = .ok (.invokespecial i2, 3))
    (kk : ∀ (ad' : Nat → Nat) (H1 : Heap) (locs1 : List Loc), (∀ k, k < N → ad' k = ad k) → WSt D cy ad' kdI shC rf' N' A M' s.heap H1 locs1 → va_D A (wsF ad' (cof cy ad' kdI shC rf' M') N') → W p l e R s m args below meth c H1 locs1 (cells + 1 + mc) (slots + NF + ms) Q (F0 m (pc + 3 + 1 + 3) ls (.ref (ad' N) :: rest))) : W p l e R s m args below meth c H locs cells slots Q (F0 m pc ls rest) := by
  refine fg_new S hK hin ty hty hlink hinst hini hc hsh hfs kdI_lt hcl hA (by omega) (by omega) hW hD d1 (fun q H hW hD => ?_)
  refine lv_dup S.1 S.2.1 d2 rfl ?_
  have f1 : upA ad N q N = q := upA_v _ _ _
  have g1 : ∀ k, k < N → upA ad N q k = ad k := fun k hk => upA_k _ _ _ (by omega)
  generalize upA ad N q = ad1 at hW hD f1 g1
  subst f1
  have hAA : ∀ q, AG ad1 (N + 1) H.size q → A q := fun q h => by
    rcases h with ⟨k, hk, rfl⟩ | h
    · exact D_A hD k hk
    · exact hA q (Nat.le_trans hW.2.1 h)
  refine va_callv (va_runIN S (hm ad1 H.size (D_J hD)) ⟨cw, hy, hin2⟩ (hp ad1 H hW.1) rfl rfl hl rfl (by
      show 2 * 0 + ((Value.ref (ad1 N) :: rest).map fun v => v.category).sum ≤ 8
      simp only [List.map_cons, List.sum_cons]
      have : (Value.ref (ad1 N)).category = 1 := rfl
      omega) d3 ⟨hcells, hslots⟩) hW.2 (fun q _ h => hAA q h) hAA (fun ad2 t H1 locs1 ht _ hp' hB _ _ hS1 => ?_)
  rw [← hp' N (by omega)]
  exact kk ad2 H1 locs1 (fun k hk => (hp' k (by omega)).trans (g1 k hk)) ⟨by rw [← ht]; exact hB.1, hS1⟩ (D_mono hB.2 hAA)
end MK
theorem PcH.blind {As : List Value} {D : va_G} {cy : Nat → ClassId} {ad : Nat → Nat} {sh : Nat → Nat × Nat} {rf : Nat → Nat → Option Nat} {N : Nat} {M : Mm} {sz : Nat} : FrameBlind (PcH As D cy ad sh rf N M sz) := fun a U g mk q => by
  obtain ⟨q0, q1, q2, q3, q4, q5⟩ := q
  exact ⟨q0, q1, q2, va_K.moved (u := U) (U := U.calling g mk a) (Vm.Alike.refl U.vm) q3, Nst.same (u := U) (U := U.calling g mk a) rfl q4, va_AO.moved (u := U) (U := U.calling g mk a) (Vm.Alike.refl U.vm) q5⟩
theorem va_AOA.moved {t : FieldType} {u U : State} (hvm : u.vm.Alike U.vm) (h : va_AOA t u) : va_AOA t U := by
  obtain ⟨comp, c, k, h1, h2, h3, h4, h5⟩ := arrayOverA_spec h
  obtain ⟨k', hk', he⟩ := hvm.2.2 _ _ h3
  have hi : (U.vm.classes.findIdx? fun (x : Class) => match x.kind with | .array component _ => component == comp | _ => false) = some c :=
    ((va_idx_bare U.vm comp).symm.trans (by first | rw [hvm.bare_eq] | rw [← hvm.bare_eq])).trans ((va_idx_bare u.vm comp).trans h2)
  have hkind : k'.kind = .array comp (.array t) := by rw [he]; exact h4
  have f1 : U.vm.findClass (FieldType.array t).toString = some comp := by rw [hvm.findClass]; exact h1
  have f2 : U.vm.findClass ("[" ++ (FieldType.array t).toString) = some c := by rw [hvm.findClass]; exact h5
  unfold va_AOA Cond.before Cond.holds
  simp only [Cond.value]
  rw [f1, Option.bind_some]
  refine (congrArg (fun o : Option Nat => (o.bind (fun c => (U.vm.classes[c]?).map fun (k : Class) => match k.kind with | .array _ ty => decide (ty = FieldType.array t) && decide (U.vm.findClass ("[" ++ (FieldType.array t).toString) = some c) | _ => false) == some true)) hi).trans ?_
  simp [hk', hkind, f2]
theorem PcI.blind {As : List Value} {D : va_G} {cy : Nat → ClassId} {ad : Nat → Nat} {sh : Nat → Nat × Nat} {rf : Nat → Nat → Option Nat} {N : Nat} {M : Mm} {sz : Nat} : FrameBlind (PcI As D cy ad sh rf N M sz) := fun a U g mk q => by
  obtain ⟨q0, q1, q2, q3, q4, q5⟩ := q
  exact ⟨q0, q1, q2, va_K.moved (u := U) (U := U.calling g mk a) (Vm.Alike.refl U.vm) q3, Nst.same (u := U) (U := U.calling g mk a) rfl q4, va_AOA.moved (u := U) (U := U.calling g mk a) (Vm.Alike.refl U.vm) q5⟩
