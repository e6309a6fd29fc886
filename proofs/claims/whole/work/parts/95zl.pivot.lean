/-! repair: no pivot is 0 -/
section Pivot
theorem gT_f (x y : Fin 256) : gT (x.val : Nat) (y.val : Nat) = (((fm x y).val : Nat) : Int) := by
  have := gT_rg (x.val : Nat) (y.val : Nat)
  show _ = (((gT (x.val : Nat) (y.val : Nat)).toNat : Nat) : Int)
  omega
theorem gI_f (x : Fin 256) : gI (x.val : Nat) = (((fi x).val : Nat) : Int) := by
  have := gp_rg (255 - gl (x.val : Nat))
  show gI (x.val : Nat) = (((gI (x.val : Nat)).toNat : Nat) : Int)
  unfold gI
  omega
theorem bX_f (x y : Fin 256) : bX (x.val : Nat) (y.val : Nat) = (((fa x y).val : Nat) : Int) := bX_n (by have := x.isLt; omega) (by have := y.isLt; omega)
theorem fa_0 {x y : Fin 256} (h : y.val = 0) : fa x y = x := by
  apply Fin.ext
  show x.val ^^^ y.val = x.val
  rw [h, Nat.xor_zero]
theorem fa_s (x : Fin 256) : (fa x x).val = 0 := Nat.xor_self _
theorem fa_x (x y z : Fin 256) : fa (fa x y) (fa z y) = fa x z := by
  have j1 : Std.Associative fa := ⟨fa_as⟩
  have j2 : Std.Commutative fa := ⟨fa_cm⟩
  have e : fa (fa x y) (fa z y) = fa (fa x z) (fa y y) := by ac_rfl
  rw [e, fa_0 (fa_s y)]
theorem fi_fi {x : Fin 256} (hx : x.val ≠ 0) : fi (fi x) = x := by
  have h1 := fm_i (fi_nz hx)
  have h2 := fm_i hx
  have e : fm x (fm (fi x) (fi (fi x))) = fm (fm x (fi x)) (fi (fi x)) := (fm_as _ _ _).symm
  rw [fm_1 h2, fm_cm, fm_1 h1] at e
  exact e.symm
def o1 : Fin 256 := ⟨1, by decide⟩
def aA (X Y : Nat → Fin 256) : Nat → Nat → Fin 256
  | 0, _ => o1
  | k + 1, r => fm (fm (aA X Y k r) (fa (X r) (X k))) (fi (fa (X r) (Y k)))
def bB (X Y : Nat → Fin 256) : Nat → Nat → Fin 256
  | 0, _ => o1
  | k + 1, c => fm (fm (bB X Y k c) (fa (Y c) (Y k))) (fi (fa (X k) (Y c)))
theorem aA_nz {X Y : Nat → Fin 256} {n : Nat} (hxy : ∀ r c, r < n → c < n → X r ≠ Y c) (hx : ∀ r s, r < n → s < n → r ≠ s → X r ≠ X s) : ∀ k r, k ≤ r → r < n → (aA X Y k r).val ≠ 0
  | 0, _, _, _ => by
    show (1 : Nat) ≠ 0
    decide
  | k + 1, r, h1, h2 => fm_nz (fm_nz (aA_nz hxy hx k r (by omega) h2) (fa_nz (hx r k h2 (by omega) (by omega)))) (fi_nz (fa_nz (hxy r k h2 (by omega))))
theorem bB_nz {X Y : Nat → Fin 256} {n : Nat} (hxy : ∀ r c, r < n → c < n → X r ≠ Y c) (hy : ∀ r s, r < n → s < n → r ≠ s → Y r ≠ Y s) : ∀ k c, k ≤ c → c < n → (bB X Y k c).val ≠ 0
  | 0, _, _, _ => by
    show (1 : Nat) ≠ 0
    decide
  | k + 1, c, h1, h2 => fm_nz (fm_nz (bB_nz hxy hy k c (by omega) h2) (fa_nz (hy c k h2 (by omega) (by omega)))) (fi_nz (fa_nz (hxy k c (by omega) h2)))
def mC (X Y : Nat → Fin 256) (k r c : Nat) : Fin 256 := fm (fm (aA X Y k r) (bB X Y k c)) (fi (fa (X r) (Y c)))
theorem mC_s {X Y : Nat → Fin 256} {n : Nat} (hxy : ∀ r c, r < n → c < n → X r ≠ Y c) (hx : ∀ r s, r < n → s < n → r ≠ s → X r ≠ X s) (hy : ∀ r s, r < n → s < n → r ≠ s → Y r ≠ Y s) {k r c : Nat} (hr : k < r ∧ r < n) (hc : k < c ∧ c < n) : fa (mC X Y k r c) (fm (fm (mC X Y k k c) (fi (mC X Y k k k))) (mC X Y k r k)) = mC X Y (k + 1) r c := by
  have i1 : Std.Associative fm := ⟨fm_as⟩
  have i2 : Std.Commutative fm := ⟨fm_cm⟩
  have j1 : Std.Associative fa := ⟨fa_as⟩
  have j2 : Std.Commutative fa := ⟨fa_cm⟩
  have na := aA_nz hxy hx k k (Nat.le_refl _) (by omega)
  have nb := bB_nz hxy hy k k (Nat.le_refl _) (by omega)
  have nw : (fa (X k) (Y k)).val ≠ 0 := fa_nz (hxy k k (by omega) (by omega))
  have nu : (fa (X k) (Y c)).val ≠ 0 := fa_nz (hxy k c (by omega) hc.2)
  have nq : (fa (X r) (Y k)).val ≠ 0 := fa_nz (hxy r k hr.2 (by omega))
  have np : (fa (X r) (Y c)).val ≠ 0 := fa_nz (hxy r c hr.2 hc.2)
  have ep : fa (fa (fa (X r) (Y k)) (fa (X k) (Y c))) (fa (X k) (Y k)) = fa (X r) (Y c) := by
    have e : fa (fa (fa (X r) (Y k)) (fa (X k) (Y c))) (fa (X k) (Y k)) = fa (fa (X r) (Y c)) (fa (fa (X k) (X k)) (fa (Y k) (Y k))) := by ac_rfl
    rw [e, fa_0 (y := fa (fa (X k) (X k)) (fa (Y k) (Y k)))]
    rw [fa_0 (fa_s (Y k))]
    exact fa_s (X k)
  have eq : fa (fa (X r) (Y k)) (fa (X k) (Y k)) = fa (X r) (X k) := fa_x _ _ _
  have eu : fa (fa (X k) (Y c)) (fa (X k) (Y k)) = fa (Y c) (Y k) := by
    rw [fa_cm (X k) (Y c), fa_cm (X k) (Y k)]
    exact fa_x _ _ _
  have key := f_key (a := fa (X r) (Y k)) (u := fa (X k) (Y c)) (w := fa (X k) (Y k)) nq nu (by rw [ep]; exact np)
  rw [ep, eq, eu] at key
  show fa (fm (fm (aA X Y k r) (bB X Y k c)) (fi (fa (X r) (Y c)))) (fm (fm (fm (fm (aA X Y k k) (bB X Y k c)) (fi (fa (X k) (Y c)))) (fi (fm (fm (aA X Y k k) (bB X Y k k)) (fi (fa (X k) (Y k)))))) (fm (fm (aA X Y k r) (bB X Y k k)) (fi (fa (X r) (Y k))))) = fm (fm (fm (fm (aA X Y k r) (fa (X r) (X k))) (fi (fa (X r) (Y k)))) (fm (fm (bB X Y k c) (fa (Y c) (Y k))) (fi (fa (X k) (Y c))))) (fi (fa (X r) (Y c)))
  rw [fi_m (fm_nz na nb) (fi_nz nw), fi_m na nb, fi_fi nw]
  generalize fa (X r) (X k) = xx at key ⊢
  generalize fa (Y c) (Y k) = yy at key ⊢
  generalize fi (fa (X r) (Y c)) = pP at key ⊢
  generalize fi (fa (X k) (Y c)) = uU at key ⊢
  generalize fi (fa (X r) (Y k)) = qQ at key ⊢
  generalize fa (X k) (Y k) = w at key ⊢
  generalize aA X Y k r = ar
  generalize bB X Y k c = bc
  generalize aA X Y k k = ak at na ⊢
  generalize bB X Y k k = bk at nb ⊢
  have e1 : fm (fm (fm (fm ak bc) uU) (fm (fm (fi ak) (fi bk)) w)) (fm (fm ar bk) qQ) = fm (fm ak (fi ak)) (fm (fm bk (fi bk)) (fm (fm ar bc) (fm w (fm uU qQ)))) := by ac_rfl
  rw [e1, fm_1 (fm_i na), fm_1 (fm_i nb), ← fm_d, key]
  ac_rfl
theorem mE_c {f : Nat → Nat → Int} {X Y : Nat → Fin 256} {n : Nat} (hf : ∀ r c, r < n → c < n → f r c = (((fi (fa (X r) (Y c))).val : Nat) : Int)) (hxy : ∀ r c, r < n → c < n → X r ≠ Y c) (hx : ∀ r s, r < n → s < n → r ≠ s → X r ≠ X s) (hy : ∀ r s, r < n → s < n → r ≠ s → Y r ≠ Y s) : ∀ k r c, k ≤ r → r < n → k ≤ c → c < n → mE f n k r c = (((mC X Y k r c).val : Nat) : Int)
  | 0, r, c, _, hr, _, hc => by
    show mE0 f n r c = _
    unfold mE0
    rw [if_pos hc, hf r c hr hc]
    show _ = (((fm (fm o1 o1) (fi (fa (X r) (Y c)))).val : Nat) : Int)
    have h1 : fm o1 o1 = o1 := fm_1 rfl o1
    rw [h1, fm_1 rfl]
  | k + 1, r, c, h1, hr, h2, hc => by
    rw [mE_s]
    unfold mS mN
    rw [if_neg (by omega), if_pos rfl, mE_c hf hxy hx hy k r c (by omega) hr (by omega) hc, mE_c hf hxy hx hy k k c (by omega) (by omega) (by omega) hc, mE_c hf hxy hx hy k k k (by omega) (by omega) (by omega) (by omega), mE_c hf hxy hx hy k r k (by omega) hr (by omega) (by omega), gI_f, gT_f, gT_f, bX_f, mC_s hxy hx hy ⟨by omega, hr⟩ ⟨by omega, hc⟩]
/-- no pivot is 0 -/
theorem pv_nz {mi ch : Nat → Nat} {n : Nat} (hmi : ∀ c, c < n → mi c < 32) (hch : ∀ r, r < n → ch r < 16) (im : ∀ a b, a < n → b < n → a ≠ b → mi a ≠ mi b) (ic : ∀ a b, a < n → b < n → a ≠ b → ch a ≠ ch b) : ∀ k, k < n → mE (fMx mi ch) n k k k ≠ 0 := by
  let X : Nat → Fin 256 := fun r => ⟨255 - ch r, by omega⟩
  let Y : Nat → Fin 256 := fun c => ⟨mi c % 256, by omega⟩
  have hxy : ∀ r c, r < n → c < n → X r ≠ Y c := fun r c hr hc e => by
    have h1 := hch r hr
    have h2 := hmi c hc
    have h3 : 255 - ch r = mi c % 256 := congrArg Fin.val e
    omega
  have hx : ∀ r s, r < n → s < n → r ≠ s → X r ≠ X s := fun r s hr hs ne e => by
    have h1 := hch r hr
    have h2 := hch s hs
    have h3 : 255 - ch r = 255 - ch s := congrArg Fin.val e
    exact ic r s hr hs ne (by omega)
  have hy : ∀ r s, r < n → s < n → r ≠ s → Y r ≠ Y s := fun r s hr hs ne e => by
    have h1 := hmi r hr
    have h2 := hmi s hs
    have h3 : mi r % 256 = mi s % 256 := congrArg Fin.val e
    exact im r s hr hs ne (by omega)
  have hf : ∀ r c, r < n → c < n → fMx mi ch r c = (((fi (fa (X r) (Y c))).val : Nat) : Int) := fun r c hr hc => by
    have h1 := hch r hr
    have h2 := hmi c hc
    unfold fMx fF
    rw [show (255 : Int) - ((ch r : Nat) : Int) = ((255 - ch r : Nat) : Int) by omega, show ((mi c : Nat) : Int) = ((mi c % 256 : Nat) : Int) by omega]
    have e : bX ((mi c % 256 : Nat) : Int) ((255 - ch r : Nat) : Int) = (((fa (Y c) (X r)).val : Nat) : Int) := bX_f (Y c) (X r)
    rw [e, gI_f, fa_cm]
  intro k hk z
  rw [mE_c hf hxy hx hy k k k (Nat.le_refl _) hk (Nat.le_refl _) hk] at z
  have nz : (mC X Y k k k).val ≠ 0 := fm_nz (fm_nz (aA_nz hxy hx k k (Nat.le_refl _) hk) (bB_nz hxy hy k k (Nat.le_refl _) hk)) (fi_nz (fa_nz (hxy k k hk hk)))
  omega
end Pivot
