/-! ===== the stages of RoomBorn's making: references and numbers ===== -/
abbrev rf0 : Nat → Nat → Option Nat := fun _ _ => none
def rfA1 : Nat → Nat → Option Nat := upR (upR rf0 1 0 2) 0 0 1
def rfA2 : Nat → Nat → Option Nat := upR (rfMo rfA1 3) 0 1 3
def rfA3 : Nat → Nat → Option Nat := upR (rfP rfA2 10) 0 2 7
def rfA4 : Nat → Nat → Option Nat := upR rfA3 0 3 49
def rfA5 : Nat → Nat → Option Nat := upR rfA4 0 4 50
def rfA6 : Nat → Nat → Option Nat := upR (upR (rfF (upR rfA5 51 0 52)) 51 1 53) 0 5 51
def rfA7 : Nat → Nat → Option Nat := upR (upR (upR rfA6 61 0 62) 61 1 63) 0 6 61
def rfA8 : Nat → Nat → Option Nat := upR (upR (upR (upR rfA7 64 0 65) 64 1 66) 64 2 67) 0 7 64
def rfA9 : Nat → Nat → Option Nat := upR (upR (upR (upR rfA8 68 0 69) 68 1 70) 68 2 71) 0 8 68
theorem cl0 : ∀ x y b, rf0 x y = some b → b < 1 := fun x y b e => by cases e
theorem clA1 : ∀ x y b, rfA1 x y = some b → b < 3 := upR_cl (upR_cl (N' := 3) cl0 (by omega) (by omega)) (by omega) (by omega)
theorem clA2 : ∀ x y b, rfA2 x y = some b → b < 7 := upR_cl (rfMo_cl clA1) (by omega) (by omega)
theorem clA3 : ∀ x y b, rfA3 x y = some b → b < 49 := upR_cl (rfP_cl (fun x y b e => by have := clA2 x y b e; omega) 10) (by omega) (by omega)
theorem clA4 : ∀ x y b, rfA4 x y = some b → b < 50 := upR_cl clA3 (by omega) (by omega)
theorem clA5 : ∀ x y b, rfA5 x y = some b → b < 51 := upR_cl clA4 (by omega) (by omega)
theorem rfF_cl {rf : Nat → Nat → Option Nat} (h : ∀ x y b, rf x y = some b → b < 53) : ∀ x y b, rfF rf x y = some b → b < 61 := by
  intro x y b e
  unfold rfF at e
  split at e
  · split at e
    · cases e
      omega
    · cases e
  · have := h x y b e
    omega
theorem clA6 : ∀ x y b, rfA6 x y = some b → b < 61 := upR_cl (N := 61) (N' := 61) (upR_cl (N' := 61) (rfF_cl (upR_cl (N' := 53) clA5 (by omega) (by omega))) (by omega) (by omega)) (by omega) (by omega)
theorem clA7 : ∀ x y b, rfA7 x y = some b → b < 64 := upR_cl (N := 64) (N' := 64) (upR_cl (N := 64) (N' := 64) (upR_cl (N' := 64) clA6 (by omega) (by omega)) (by omega) (by omega)) (by omega) (by omega)
theorem clA8 : ∀ x y b, rfA8 x y = some b → b < 68 := upR_cl (N := 68) (N' := 68) (upR_cl (N := 68) (N' := 68) (upR_cl (N := 68) (N' := 68) (upR_cl (N' := 68) clA7 (by omega) (by omega)) (by omega) (by omega)) (by omega) (by omega)) (by omega) (by omega)
theorem clA9 : ∀ x y b, rfA9 x y = some b → b < 72 := upR_cl (N := 72) (N' := 72) (upR_cl (N := 72) (N' := 72) (upR_cl (N := 72) (N' := 72) (upR_cl (N' := 72) clA8 (by omega) (by omega)) (by omega) (by omega)) (by omega) (by omega)) (by omega) (by omega)
theorem upR_n {rf : Nat → Nat → Option Nat} {N a k b : Nat} (h : ∀ x, N ≤ x → ∀ y, rf x y = none) {N' : Nat} (ha : a < N') (hN : N ≤ N') : ∀ x, N' ≤ x → ∀ y, upR rf a k b x y = none := fun x hx y => by
  rw [upR_o _ _ _ _ (Or.inl (by omega))]
  exact h x (by omega) y
theorem nA1 : ∀ x, 3 ≤ x → ∀ y, rfA1 x y = none := upR_n (upR_n (N := 0) (N' := 3) (fun _ _ _ => rfl) (by omega) (by omega)) (by omega) (by omega)
theorem nA2 : ∀ x, 7 ≤ x → ∀ y, rfA2 x y = none := upR_n (N := 7) (fun x hx y => by rw [rfMo_o (by omega)]; exact nA1 x (by omega) y) (by omega) (by omega)
theorem nA3 : ∀ x, 49 ≤ x → ∀ y, rfA3 x y = none := upR_n (N := 49) (fun x hx y => rfP_n (fun x hx => nA2 x (by omega)) 10 x (by omega) y) (by omega) (by omega)
theorem nA4 : ∀ x, 49 ≤ x → ∀ y, rfA4 x y = none := upR_n nA3 (by omega) (by omega)
theorem nA5 : ∀ x, 49 ≤ x → ∀ y, rfA5 x y = none := upR_n nA4 (by omega) (by omega)
theorem nA6 : ∀ x, 54 ≤ x → ∀ y, rfA6 x y = none := upR_n (N := 54) (N' := 54) (upR_n (N' := 54) (N := 54) (fun x hx y => by
  unfold rfF
  rw [if_neg (by omega), upR_o _ _ _ _ (Or.inl (by omega))]
  exact nA5 x (by omega) y) (by omega) (by omega)) (by omega) (by omega)
theorem nA7 : ∀ x, 62 ≤ x → ∀ y, rfA7 x y = none := upR_n (N := 62) (N' := 62) (upR_n (N := 62) (N' := 62) (upR_n (N' := 62) nA6 (by omega) (by omega)) (by omega) (by omega)) (by omega) (by omega)
theorem nA8 : ∀ x, 65 ≤ x → ∀ y, rfA8 x y = none := upR_n (N := 65) (N' := 65) (upR_n (N := 65) (N' := 65) (upR_n (N := 65) (N' := 65) (upR_n (N' := 65) nA7 (by omega) (by omega)) (by omega) (by omega)) (by omega) (by omega)) (by omega) (by omega)
theorem nA9 : ∀ x, 69 ≤ x → ∀ y, rfA9 x y = none := upR_n (N := 69) (N' := 69) (upR_n (N := 69) (N' := 69) (upR_n (N := 69) (N' := 69) (upR_n (N' := 69) nA8 (by omega) (by omega)) (by omega) (by omega)) (by omega) (by omega)) (by omega) (by omega)
def MA1 : Mm := wI Z0 1 1 0
def MA3 : Mm := wI (wI MA1 7 1 0) 7 2 0
def MA6 : Mm := wI (wI MA3 51 2 0) 51 3 0
def MA7 : Mm := wI MA6 61 2 0
def MA8 : Mm := wI (wI (wI (wI (wI MA7 64 3 0) 64 4 0) 64 5 3) 64 6 0) 64 7 70
def MA9 : Mm := wI (wI (wI (wI (wI MA8 68 3 0) 68 4 0) 68 5 3) 68 6 0) 68 7 70
theorem zA1 : ∀ x, 2 ≤ x → ∀ j, MA1.1 x j = 0 := fun x hx j => by
  unfold MA1
  rw [wI_o _ _ _ _ (by omega)]
  rfl
theorem zA3 : ∀ x, 8 ≤ x → ∀ j, MA3.1 x j = 0 := fun x hx j => by
  unfold MA3
  rw [wI_o _ _ _ _ (by omega), wI_o _ _ _ _ (by omega), zA1 x (by omega)]
theorem zA6 : ∀ x, 52 ≤ x → ∀ j, MA6.1 x j = 0 := fun x hx j => by
  unfold MA6
  rw [wI_o _ _ _ _ (by omega), wI_o _ _ _ _ (by omega), zA3 x (by omega)]
theorem zA7 : ∀ x, 62 ≤ x → ∀ j, MA7.1 x j = 0 := fun x hx j => by
  unfold MA7
  rw [wI_o _ _ _ _ (by omega), zA6 x (by omega)]
theorem zA8 : ∀ x, 65 ≤ x → ∀ j, MA8.1 x j = 0 := fun x hx j => by
  unfold MA8
  rw [wI_o _ _ _ _ (by omega), wI_o _ _ _ _ (by omega), wI_o _ _ _ _ (by omega), wI_o _ _ _ _ (by omega), wI_o _ _ _ _ (by omega), zA7 x (by omega)]
theorem zA9 : ∀ x, 69 ≤ x → ∀ j, MA9.1 x j = 0 := fun x hx j => by
  unfold MA9
  rw [wI_o _ _ _ _ (by omega), wI_o _ _ _ _ (by omega), wI_o _ _ _ _ (by omega), wI_o _ _ _ _ (by omega), wI_o _ _ _ _ (by omega), zA8 x (by omega)]
