/-! read: blank rows, sums, labels -/
section Rea2
variable {q : Nat × (Nat → Int32)} {x p : Int} {t : Int → Int}
/-- 1 if k octets from p on are 0 -/
def bkF (t : Int → Int) (p : Int) : Nat → Int
  | 0 => 1
  | k + 1 => if bkF t p k = 1 ∧ t (p + k) = 0 then 1 else 0
def smF (t : Int → Int) (p : Int) : Nat → Int
  | 0 => 0
  | k + 1 => smF t p k + (if 148 ≤ k ∧ k < 156 then 32 else t (p + k))
theorem bkF_s (t : Int → Int) (p : Int) (k : Nat) : bkF t p (k + 1) = if bkF t p k = 1 ∧ t (p + k) = 0 then 1 else 0 := rfl
theorem smF_s (t : Int → Int) (p : Int) (k : Nat) : smF t p (k + 1) = smF t p k + (if 148 ≤ k ∧ k < 156 then 32 else t (p + k)) := rfl
theorem bkF_0 {t : Int → Int} {p : Int} {k : Nat} (h : bkF t p k = 0) : ∀ {j : Nat}, k ≤ j → bkF t p j = 0 := by
  intro j
  induction j with
  | zero => intro hj; rw [show k = 0 by omega] at h; exact h
  | succ j ih =>
    intro hj
    by_cases c : k = j + 1
    · subst c; exact h
    · rw [bkF_s, ih (by omega), if_neg (fun y => absurd y.1 (by decide))]
theorem bkF_01 (t : Int → Int) (p : Int) : ∀ k : Nat, bkF t p k = 0 ∨ bkF t p k = 1
  | 0 => Or.inr rfl
  | k + 1 => by
    rw [bkF_s]
    split
    · exact Or.inr rfl
    · exact Or.inl rfl
theorem smF_rg (h0 : 0 ≤ p) (hx : x ≤ 6000) (h1 : p + 512 ≤ x) (ht : ∀ k : Int, 0 ≤ k → k < x → 0 ≤ t k ∧ t k < 256) : ∀ k : Nat, k ≤ 512 → 0 ≤ smF t p k ∧ smF t p k ≤ 256 * k
  | 0, _ => ⟨Int.le_refl 0, Int.le_refl 0⟩
  | k + 1, hk => by
    have a := smF_rg h0 hx h1 ht k (by omega)
    rw [smF_s]
    have b := ht (p + k) (by omega) (by omega)
    split <;> omega
theorem sp_blank {A : ms} (h0 : 0 ≤ p) (h1 : p + 512 ≤ x) (hx : x ≤ 6000) (hA : TC A x t) : ∀ (d i : Nat), i + d = 512 → bkF t p i = 1 → EV q 194 2 [some (.ref 2), some (vI p), some (vI i)] [] A (some (vI (bkF t p 512))) A := by
  intro d
  induction d with
  | zero =>
    intro i hi hb
    have e : i = 512 := by omega
    subst e
    rw [hb]
    exact vc_Shelf_isBlank_2 _ _ 2 6000 sh_2 (cY (by decide) ⟨rfl, rfl⟩)
  | succ d ih =>
    intro i hi hb
    have wi : Unit → w32 ((i : Nat) : Int) = i := fun _ => w32_of (by omega)
    have wpi : Unit → w32 (p + (i : Int)) = p + i := fun _ => w32_of (by omega)
    have ei : ((i + 1 : Nat) : Int) = (i : Int) + 1 := by omega
    have ht := hA (p + i) (by omega) (by omega)
    have wt : w32 (t (p + i)) = t (p + i) := w32_of (by omega)
    refine vc_Shelf_isBlank_2 _ _ 2 6000 sh_2 ?_
    rw [wi (), wpi (), ht.2, wt]
    refine cNo (by omega) ⟨by omega, ?_⟩
    by_cases c : t (p + i) = 0
    · have k := ih (i + 1) (by omega) (by rw [bkF_s, if_pos ⟨hb, c⟩])
      rw [ei] at k
      exact cY c k
    · rw [bkF_0 (k := i + 1) (by rw [bkF_s, if_neg (fun y => c y.2)]) (by omega)]
      exact cNo c ⟨rfl, rfl⟩
theorem sp_tsum {A : ms} (h0 : 0 ≤ p) (h1 : p + 512 ≤ x) (hx : x ≤ 6000) (hA : TC A x t) : ∀ (d i : Nat), i + d = 512 → EV q 186 4 [some (.ref 2), some (vI p), some (vI (smF t p i)), some (vI i)] [] A (some (vI (smF t p 512))) A := by
  intro d
  induction d with
  | zero =>
    intro i hi
    have e : i = 512 := by omega
    subst e
    exact vc_Shelf_tapeSum_4 _ _ _ 2 6000 sh_2 (cY (by decide) ⟨rfl, rfl⟩)
  | succ d ih =>
    intro i hi
    have wi : Unit → w32 ((i : Nat) : Int) = i := fun _ => w32_of (by omega)
    have wpi : Unit → w32 (p + (i : Int)) = p + i := fun _ => w32_of (by omega)
    have ei : ((i + 1 : Nat) : Int) = (i : Int) + 1 := by omega
    have ht := hA (p + i) (by omega) (by omega)
    have k := ih (i + 1) (by omega)
    rw [ei, smF_s] at k
    refine vc_Shelf_tapeSum_4 _ _ _ 2 6000 sh_2 ?_
    rw [wi ()]
    refine cNo (by omega) ?_
    by_cases c : 148 ≤ i ∧ i < 156
    · rw [if_pos c] at k
      exact cNo (by omega) (cNo (by omega) (vc_Shelf_tapeSum_36 _ _ _ _ _ 2 6000 sh_2 k))
    · rw [if_neg c] at k
      have k31 : EV q 186 31 [some (.ref 2), some (vI p), some (vI (smF t p i)), some (vI i)] [vI (smF t p i)] A (some (vI (smF t p 512))) A := by
        refine vc_Shelf_tapeSum_31 _ _ _ _ 2 6000 sh_2 ?_
        rw [wpi (), ht.2]
        exact ⟨by omega, vc_Shelf_tapeSum_36 _ _ _ _ _ 2 6000 sh_2 k⟩
      by_cases c2 : (i : Int) < 148
      · exact cY c2 k31
      · exact cNo c2 (cY (by omega) k31)
theorem md_blank {B : ms} {r : Option Value} {T : ms} (h0 : 0 ≤ p) (h1 : p + 512 ≤ x) (hx : x ≤ 6000) (hB : TM B x t) (fin : EV q 393 38 [some (.ref 367), some (vI p), some (vI (bkF t p 512)), some (vI (smF t p 512)), some (vI 512), none, none, none, none, none, none, none, none, none, none, none, none, none] [] B r T) : ∀ (d i : Nat), i + d = 512 → EV q 393 38 [some (.ref 367), some (vI p), some (vI (bkF t p i)), some (vI (smF t p i)), some (vI i), none, none, none, none, none, none, none, none, none, none, none, none, none] [] B r T := by
  intro d
  induction d with
  | zero =>
    intro i hi
    have e : i = 512 := by omega
    subst e
    exact fin
  | succ d ih =>
    intro i hi
    have wi : Unit → w32 ((i : Nat) : Int) = i := fun _ => w32_of (by omega)
    have wpi : Unit → w32 (p + (i : Int)) = p + i := fun _ => w32_of (by omega)
    have ei : ((i + 1 : Nat) : Int) = (i : Int) + 1 := by omega
    have ht := hB (p + i) (by omega) (by omega)
    have k := ih (i + 1) (by omega)
    rw [ei, smF_s] at k
    have k67 : EV q 393 67 [some (.ref 367), some (vI p), some (vI (bkF t p i)), some (vI (smF t p i)), some (vI i), none, none, none, none, none, none, none, none, none, none, none, none, none] [vI (bkF t p (i + 1))] B r T := by
      by_cases c : 148 ≤ i ∧ i < 156
      · rw [if_pos c] at k
        refine vc_MD_readTape_67 _ _ _ _ _ ⟨1, B, vc_MD_in _ _ _ ?_, cNo (by decide) (vc_MD_readTape_101 _ _ _ _ _ _ k)⟩
        rw [wi (), show w32 148 = 148 by decide, show w32 155 = 155 by decide]
        exact cNo (by omega) (cNo (by omega) ⟨rfl, rfl⟩)
      · rw [if_neg c] at k
        refine vc_MD_readTape_67 _ _ _ _ _ ⟨0, B, vc_MD_in _ _ _ ?_, cY (by decide) ?_⟩
        · rw [wi (), show w32 148 = 148 by decide, show w32 155 = 155 by decide]
          by_cases c2 : (i : Int) < 148
          · exact cY c2 ⟨rfl, rfl⟩
          · exact cNo c2 (cY (by omega) ⟨rfl, rfl⟩)
        · rw [wpi (), ht.2, show b8 (t (p + i)) % 256 = t (p + i) by unfold b8; omega]
          exact ⟨by omega, vc_MD_readTape_101 _ _ _ _ _ _ k⟩
    refine vc_MD_readTape_38 _ _ _ _ ?_
    rw [wi ()]
    refine cNo (by omega) ?_
    rcases bkF_01 t p i with b | b
    · rw [bkF_0 b (show i ≤ i + 1 by omega)] at k67
      rw [b] at k67 ⊢
      exact cY (by decide) (vc_MD_readTape_66 _ _ _ _ k67)
    · rw [b] at k67 ⊢
      rw [wpi (), ht.2]
      refine cNo (by decide) ⟨by omega, ?_⟩
      by_cases c : t (p + i) = 0
      · rw [bkF_s, if_pos ⟨b, c⟩] at k67
        exact cNN ((b8_is ht.1 (by decide)).2 c) k67
      · rw [bkF_s, if_neg (fun y => c y.2)] at k67
        exact cY (fun y => c ((b8_is ht.1 (by decide)).1 y)) (vc_MD_readTape_66 _ _ _ _ k67)
/-- as far as the first 0 -/
def upR (t : Int → Int) (p : Int) (n u : Nat) : Prop := u ≤ n ∧ (∀ k : Nat, k < u → t (p + k) ≠ 0) ∧ (u < n → t (p + u) = 0)
theorem md_up {n : Nat} (h0 : 0 ≤ p) (h1 : p + n ≤ x) (hx : x ≤ 6000) : ∃ u : Nat, upR t p n u ∧ ∀ B : ms, TM B x t → EV q 395 0 [some (.ref 367), some (vI p), some (vI n), none] [] B (some (vI u)) B := by
  have lp : ∀ (d i : Nat), i + d = n → (∀ k : Nat, k < i → t (p + k) ≠ 0) → ∃ u : Nat, upR t p n u ∧ ∀ B : ms, TM B x t → EV q 395 2 [some (.ref 367), some (vI p), some (vI n), some (vI i)] [] B (some (vI u)) B := by
    intro d
    induction d with
    | zero =>
      intro i hi hk
      have e : i = n := by omega
      subst e
      exact ⟨i, ⟨Nat.le_refl _, hk, fun y => absurd y (by omega)⟩, fun B hB => vc_MD_upTo0_2 _ _ _ (cY (Int.le_refl _) ⟨rfl, rfl⟩)⟩
    | succ d ih =>
      intro i hi hk
      have wi : Unit → w32 ((i : Nat) : Int) = i := fun _ => w32_of (by omega)
      have wn : Unit → w32 ((n : Nat) : Int) = n := fun _ => w32_of (by omega)
      have wpi : Unit → w32 (p + (i : Int)) = p + i := fun _ => w32_of (by omega)
      have ei : ((i + 1 : Nat) : Int) = (i : Int) + 1 := by omega
      by_cases c : t (p + i) = 0
      · refine ⟨i, ⟨by omega, hk, fun _ => c⟩, fun B hB => vc_MD_upTo0_2 _ _ _ ?_⟩
        have ht := hB (p + i) (by omega) (by omega)
        rw [wn (), wi (), wpi (), ht.2]
        exact cNo (by omega) ⟨by omega, cY ((b8_is ht.1 (by decide)).2 c) ⟨rfl, rfl⟩⟩
      · obtain ⟨u, u1, u2⟩ := ih (i + 1) (by omega) (fun k hk' => by
          by_cases e : k = i
          · subst e; exact c
          · exact hk k (by omega))
        refine ⟨u, u1, fun B hB => vc_MD_upTo0_2 _ _ _ ?_⟩
        have ht := hB (p + i) (by omega) (by omega)
        have k2 := u2 B hB
        rw [ei] at k2
        rw [wn (), wi (), wpi (), ht.2]
        exact cNo (by omega) ⟨by omega, cNo (fun y => c ((b8_is ht.1 (by decide)).1 y)) k2⟩
  obtain ⟨u, u1, u2⟩ := lp n 0 (by omega) (fun k hk => absurd hk (by omega))
  exact ⟨u, u1, fun B hB => vc_MD_upTo0 _ _ (u2 B hB)⟩
/-- a label: T octets of g were added to a row for 100 -/
def LabC (A : ms) (b T : Nat) (g : Int → Int) : Prop := A.1 b 1 = min (T : Int) 100 ∧ A.1 b 2 = (if T ≤ 100 then 0 else 1) ∧ ∀ k : Nat, k < T → k < 100 → A.1 (b + 1) k = g k
theorem lab_clr {A : ms} {b : Nat} (hb : isRow b 100) (g : Int → Int) : EV q 37 0 [some (.ref b)] [] A none (CL A b) ∧ EX (fun a _ => a = b ∨ a = b + 1) A (CL A b) ∧ LabC (CL A b) b 0 g := by
  refine ⟨sp_clear hb, ⟨rfl, fun a k n => CL_n _ (fun y => n (Or.inl y))⟩, ?_, ?_, fun k hk => absurd hk (by omega)⟩
  · rw [CL_1]; rfl
  · rw [CL_at, if_neg (by omega), if_pos ⟨rfl, rfl⟩]; rfl
theorem lab_add {A : ms} {b T : Nat} {g : Int → Int} {v : Int} (hb : isRow b 100) (h : LabC A b T g) (hv : 0 ≤ v ∧ v < 256) (hT : T < 100000) (hg : g T = v) : ∃ A1, EX (fun a _ => a = b ∨ a = b + 1) A A1 ∧ LabC A1 b (T + 1) g ∧ EV q 19 0 [some (.ref b), some (vI v)] [] A none A1 := by
  by_cases c : T < 100
  · have e1 : A.1 b 1 = T := by rw [h.1]; omega
    have k := row_add (q := q) (S := A) hb (by decide) (p := T) e1 (by omega) (by omega) v
    rw [show v % 256 = v by omega] at k
    refine ⟨_, EX.wr (EX.wr (EX.refl _ A) (Or.inr rfl)) (Or.inl rfl), ⟨?_, ?_, fun k hk hk' => ?_⟩, k⟩
    · rw [wI_at]; omega
    · rw [wI_no _ (by omega), wI_no _ (by omega), h.2.1, if_pos (by omega), if_pos (by omega)]
    · rw [wI_no _ (by omega)]
      by_cases d : k = T
      · subst d; rw [wI_at, hg]
      · rw [wI_no _ (by omega)]; exact h.2.2 k (by omega) hk'
  · have e1 : A.1 b 1 = 100 := by rw [h.1]; omega
    refine ⟨wI A b 2 1, EX.wr (EX.refl _ A) (Or.inl rfl), ⟨?_, ?_, fun k hk hk' => ?_⟩, vc_Row_add _ b 100 hb ?_⟩
    · rw [wI_no _ (by omega), e1]; omega
    · rw [wI_at, if_neg (by omega)]
    · rw [wI_no _ (by omega)]; exact h.2.2 k (by omega) hk'
    · rw [e1]
      exact cNo (by decide) (cNo (by decide) (vc_Row_add_19 _ b 100 hb (fun S1 e => ⟨rfl, e.symm⟩)))
end Rea2
