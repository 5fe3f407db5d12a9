/-! ===== Filling's constructor, whole ===== -/
abbrev PcI (As : List Value) (D : va_G) (cy : Nat → ClassId) (ad : Nat → Nat) (sh : Nat → Nat × Nat) (rf : Nat → Nat → Option Nat) (N : Nat) (M : Mm) (sz : Nat) : Array Value → State → Prop :=
  va_Pc As (fun U => U.heap.size = sz ∧ va_P D vwCl (wsF ad (cof cy ad kdI sh rf M) N) U.heap ∧ va_K D vwCl (tysV cy) U ∧ Nst U ∧ va_AOA .int U)
set_option maxHeartbeats 4000000 in
set_option maxRecDepth 100000 in
theorem kX0_init (l : Launch) {D : va_G} {cy : Nat → ClassId} {ad : Nat → Nat} (rf : Nat → Nat → Option Nat) (M : Mm) (hJ : Inj ad 52) (hcl : ∀ x y b, rf x y = some b → b < 52) (hM : ∀ x, 51 < x → ∀ j, M.1 x j = 0) (sz : Nat) : Met l yX0_init vX0_init ({ frames := 1, cells := 9, slots := 237, locals := 12 } : Room) (PcI [.ref (ad 51)] D cy ad shC rf 52 M sz) (QvG D cy ad shC (upR (rfF (upR rf 51 0 52)) 51 1 53) 52 61 (wI (wI M 51 2 0) 51 3 0) sz) 9 237 (AG ad 52 sz) := by
  refine Met.ofW (cc := cX0_init) (maxL := 1) (ret := none) (by decide) rfl ?_
  intro p e s m args below meth c s₁ B hml hv
  obtain ⟨rfl, hsz, hP, hK, hN, hO⟩ := hv
  subst hsz
  have hr := B.returns
  have hlocks := B.notSynchronized
  have hinit : meth.name = "<init>" := (name_of_methodNamed B.named B.method).1
  have S : CallFix p m c cX0_init 1 s ([.ref (ad 51)] : List Value).toArray vX0_init RX0 := ⟨B.exec, B.bytes, hml, findClass_of_methodNamed B.named, atoms_spec (ws := vX0_init) B.pre⟩
  have hq : ∀ w ∈ GW, w.before ([.ref (ad 51)] : List Value).toArray s = true := fun w h => S.2.2.2.2 w (List.mem_cons_of_mem _ h)
  have hA : ∀ q, s.heap.size ≤ q → AG ad 52 s.heap.size q := fun q h => Or.inr h
  have hA0 : ∀ k, k < 52 → AG ad 52 s.heap.size (ad k) := fun k hk => Or.inl ⟨k, hk, rfl⟩
  have hD : va_D (AG ad 52 s.heap.size) (wsF ad (cof cy ad kdI shC rf M) 52) := wsF_D hJ hA0
  have hW : WSt D cy ad kdI shC rf 52 (AG ad 52 s.heap.size) M s.heap s.heap [] := ⟨hP, va_S.rf⟩
  clear hP
  have iX0 : ∀ w ∈ wsX00, w ∈ vX0_init := fun w h => List.mem_cons_of_mem _ (inX0 w h)
  have hl := lv_entry ([.ref (ad 51)]) (n := 1) (Nat.le_of_ble_eq_true rfl)
  rw [lg_entry_eq]
  generalize (lg_sl ([.ref (ad 51)]) ++ List.replicate (1 - (lg_sl ([.ref (ad 51)])).length) Slot.unset).toArray = ls at hl ⊢
  have hl : lv_has ls 1 [(0, .ref (ad 51))] := hl
  refine lv_aload_n S.1 S.2.1 dX0_init_0 rfl (lv_at hl 0 rfl) ?_
  refine W.objInit S.1 S.2.1 S.2.2.2.1 (hq _ z_1_110) (hq _ z_1_18) (hq _ z_1_19) rfl (by rw [hml]; exact hl.1) rfl dX0_init_1 (Nat.le_of_ble_eq_true rfl) (Nat.le_of_ble_eq_true rfl) ?_
  refine W.eq (g2 := F0 m 4 ls []) rfl ?_
  refine lv_aload_n S.1 S.2.1 dX0_init_4 rfl (lv_at hl 0 rfl) ?_
  refine lv_bipush (v := (6 : Int32)) S.1 S.2.1 dX0_init_5 (by decide) ?_
  refine fg_newI S hK (hq _ z_1_53) (n := 6) (by decide) rfl (show shC 52 = (1, 6) from rfl) (hM _ (by omega)) kdI_lt hcl (by decide) hA (Nat.le_of_ble_eq_true rfl) (Nat.le_of_ble_eq_true rfl) hW hD dX0_init_7 (fun q1 H hW hD => ?_)
  have e1 : upA ad 52 q1 51 = ad 51 := upA_k _ _ _ (by omega)
  have f1 : upA ad 52 q1 52 = q1 := upA_v _ _ _
  have g1 : ∀ k, k < 52 → upA ad 52 q1 k = ad k := fun k hk => upA_k _ _ _ (by omega)
  generalize upA ad 52 q1 = ad1 at hW hD e1 f1 g1
  refine fg_putF S hK (D_J hD) (D_A hD) hinit tyX0 tyX0_ok nmX0 iX0 rfl (a := 51) (by omega) (show shC 51 = (0, 0) from rfl) 0 (by decide) (hq _ z_1_113) (fun _ h9 => h9) rfl rfl (b := 52) e1 f1 rfl rfl rfl rfl hW dX0_init_9 (fun H locs hW => ?_)
  have hcl1 := upR_cl (a := 51) (k := 0) (b0 := 52) (N' := 53) hcl (by omega) (by omega)
  have hD1 := wsF_D (cf := cof cy ad1 kdI shC (upR rf 51 0 52) M) (D_J hD) (D_A hD)
  refine lv_aload_n S.1 S.2.1 dX0_init_12 rfl (lv_at hl 0 rfl) ?_
  refine lv_bipush (v := (7 : Int32)) S.1 S.2.1 dX0_init_13 (by decide) ?_
  refine lv_bipush (v := (32 : Int32)) S.1 S.2.1 dX0_init_15 (by decide) ?_
  refine fg_newM S hK hO (hq _ z_1_111) (hq _ z_1_53) (fun x hx => hM x (by omega)) hcl1 hA (Nat.le_of_ble_eq_true rfl) (Nat.le_of_ble_eq_true rfl) hW hD1 dX0_init_17 (fun ad2 H hag hW hD => ?_)
  have e2 : ad2 51 = ad 51 := (hag 51 (by omega)).trans e1
  have g2 : ∀ k, k < 52 → ad2 k = ad k := fun k hk => (hag k (by omega)).trans (g1 k hk)
  refine fg_putF S hK (D_J hD) (D_A hD) hinit tyX0 tyX0_ok nmX0 iX0 rfl (a := 51) (by omega) (show shC 51 = (0, 0) from rfl) 1 (by decide) (hq _ z_1_115) (fun _ h9 => h9) rfl rfl (b := 53) e2 rfl rfl rfl rfl rfl hW dX0_init_21 (fun H locs hW => ?_)
  refine lv_aload_n S.1 S.2.1 dX0_init_24 rfl (lv_at hl 0 rfl) ?_
  refine lv_iconst (v := (0 : Int32)) S.1 S.2.1 dX0_init_25 (by decide) ?_
  refine fg_putI S hK (D_J hD) (D_A hD) tyX0 tyX0_ok nmX0 iX0 rfl (a := 51) (by omega) (show shC 51 = (0, 0) from rfl) 2 (by decide) (hq _ z_1_116) (fun _ h9 => h9) rfl e2 rfl rfl rfl rfl hW dX0_init_26 (fun H locs hW => ?_)
  refine lv_aload_n S.1 S.2.1 dX0_init_29 rfl (lv_at hl 0 rfl) ?_
  refine lv_iconst (v := (0 : Int32)) S.1 S.2.1 dX0_init_30 (by decide) ?_
  refine fg_putI S hK (D_J hD) (D_A hD) tyX0 tyX0_ok nmX0 iX0 rfl (a := 51) (by omega) (show shC 51 = (0, 0) from rfl) 3 (by decide) (hq _ z_1_118) (fun _ h9 => h9) rfl e2 rfl rfl rfl rfl hW dX0_init_31 (fun H locs hW => ?_)
  have hDe := wsF_D (cf := cof cy ad2 kdI shC (upR (rfF (upR rf 51 0 52)) 51 1 53) (wI (wI M 51 2 0) 51 3 0)) (D_J hD) (D_A hD)
  exact W.vret S.1 S.2.1 hr (fun t ht _ => ⟨⟨ad2, rfl, g2, by subst ht; exact hW.1, hDe⟩, hW.2.F ht⟩) hW.2.2.2 dX0_init_34 hlocks
