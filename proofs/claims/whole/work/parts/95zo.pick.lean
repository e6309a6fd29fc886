/-! repair: which parts are missing, and which checks are taken -/
section Pick
variable {q : Nat × (Nat → Int32)} {S T : ms} {n D C : Nat}
theorem cn_sm (S : ms) : ∀ p, cn S p = sm (fun j => gn S j) p
  | 0 => rfl
  | p + 1 => by
    show cn S p + gn S p = sm (fun j => gn S j) p + gn S p
    rw [cn_sm S p]
/-- the number of the r-th that w marks -/
def sl (w : Nat → Int) : Nat → Int → Nat
  | 0, _ => 0
  | j + 1, r => if w j = 1 ∧ sm w j = r then j else sl w j r
theorem sl_spec {w : Nat → Int} (hw : ∀ j, w j = 0 ∨ w j = 1) {r : Int} (r0 : 0 ≤ r) : ∀ {J : Nat}, r < sm w J → sl w J r < J ∧ w (sl w J r) = 1 ∧ sm w (sl w J r) = r
  | 0, h => absurd h (by show ¬ r < (0 : Int); omega)
  | J + 1, h => by
    have e : sl w (J + 1) r = if w J = 1 ∧ sm w J = r then J else sl w J r := rfl
    have s : sm w (J + 1) = sm w J + w J := rfl
    rw [e]
    by_cases c : w J = 1 ∧ sm w J = r
    · rw [if_pos c]
      exact ⟨by omega, c.1, c.2⟩
    · rw [if_neg c]
      have hJ := hw J
      obtain ⟨h1, h2, h3⟩ := sl_spec hw r0 (J := J) (by omega)
      exact ⟨by omega, h2, h3⟩
theorem sm_in {w : Nat → Int} (hw : ∀ j, w j = 0 ∨ w j = 1) {p p' : Nat} (h1 : w p = 1) (h2 : w p' = 1) (e : sm w p = sm w p') : p = p' := by
  apply Classical.byContradiction
  intro ne
  by_cases c : p < p'
  · have m := sm_mono (u := w) (n := p') (fun j _ => by have := hw j; omega) (j := p + 1) (by omega)
    have s : sm w (p + 1) = sm w p + w p := rfl
    omega
  · have m := sm_mono (u := w) (n := p) (fun j _ => by have := hw j; omega) (j := p' + 1) (by omega)
    have s : sm w (p' + 1) = sm w p' + w p' := rfl
    omega
theorem sl_inv {w : Nat → Int} (hw : ∀ j, w j = 0 ∨ w j = 1) {J p : Nat} (hp : p < J) (h1 : w p = 1) : sl w J (sm w p) = p := by
  have m := sm_mono (u := w) (n := J) (fun j _ => by have := hw j; omega) (j := p + 1) (by omega)
  have s : sm w (p + 1) = sm w p + w p := rfl
  have nn := sm_nn (u := w) (n := p) (fun j _ => by have := hw j; omega)
  obtain ⟨g1, g2, g3⟩ := sl_spec hw nn (J := J) (by omega)
  exact sm_in hw g2 h1 g3
/-- a memory in which cell c lists what w marks, as far as j, at most n -/
def LsT (S T : ms) (c : Nat) (w : Nat → Int) (n j : Nat) : Prop := T.2 = S.2 ∧ (∀ (a : Nat) (k : Int), a ≠ c → T.1 a k = S.1 a k) ∧ ∀ l : Nat, l < j → w l = 1 → sm w l < n → T.1 c (sm w l) = l
theorem LsT_w {c : Nat} {w : Nat → Int} {j : Nat} (hw : ∀ j, w j = 0 ∨ w j = 1) (h : LsT S T c w n j) (h1 : w j = 1) : LsT S (wI T c (sm w j) j) c w n (j + 1) := by
  refine ⟨h.1, fun a k ha => by rw [rI_I, if_neg (fun y => ha y.1), h.2.1 a k ha], fun l hl wl sl => ?_⟩
  rw [rI_I]
  by_cases e : l = j
  · subst e
    rw [if_pos ⟨rfl, rfl⟩]
  · rw [if_neg (fun y => e (sm_in hw wl h1 y.2)), h.2.2 l (by omega) wl sl]
theorem LsT_s {c : Nat} {w : Nat → Int} {j : Nat} (h : LsT S T c w n j) (h1 : w j ≠ 1) : LsT S T c w n (j + 1) := ⟨h.1, h.2.1, fun l hl wl sl => by
  have : l ≠ j := fun e => h1 (by rw [← e]; exact wl)
  exact h.2.2 l (by omega) wl sl⟩
/-- the class takes checks -/
theorem lp_pk {w : Nat → Int} (hw : ∀ j, w j = 0 ∨ w j = 1) (hn : n ≤ 16) (hD : D ≤ 32) (hC : C ≤ 16) (h5 : S.1 173 5 = n) (h6 : S.1 173 6 = D) (h2 : S.1 173 2 = C) (h176 : ∀ j : Nat, j < C → S.1 176 ((D : Int) + j) = 1 - w j) (hen : (n : Int) ≤ sm w C) {rr : Option Value} {P : ms → Prop} (nx : ∀ (U : ms) (x2 : Int) (j : Nat), LsT S U 179 w n j → (n : Int) ≤ sm w j → j ≤ C → ∃ T', EV q 235 50 [some (.ref 173), some (vI n), some (vI x2)] [] U rr T' ∧ P T') : ∀ (t j : Nat) (U : ms), j + t = C → LsT S U 179 w n j → sm w j ≤ n → ∃ T', EV q 235 4 [some (.ref 173), some (vI (sm w j)), some (vI j)] [] U rr T' ∧ P T' := by
  intro t
  induction t with
  | zero =>
    intro j U hj hU hs
    have e : j = C := by omega
    subst e
    have es : sm w j = n := by omega
    obtain ⟨T', k1, k2⟩ := nx U j j hU (by omega) (by omega)
    refine ⟨T', vc_Parts_haveAgain_4 _ _ ?_, k2⟩
    rw [hU.2.1 173 2 (by decide), h2, es]
    exact ⟨fun _ => k1, fun n => absurd (Int.le_refl _) n⟩
  | succ t ih =>
    intro j U hj hU hs
    have wj := hw j
    have nn := sm_nn (u := w) (n := j) (fun i _ => by have := hw i; omega)
    have s : sm w (j + 1) = sm w j + w j := rfl
    have z0 : ¬ (C : Int) ≤ j := by omega
    have z1 : 0 ≤ (D : Int) + j ∧ (D : Int) + j < (48 : Nat) := by omega
    have ek : ((j + 1 : Nat) : Int) = (j : Int) + 1 := by omega
    have ws : w32 (sm w j) = sm w j := w32_of (by omega)
    have w1 : w32 (1 - w j) = 1 - w j := w32_of (by omega)
    have wC' : Unit → w32 (C : Int) = C := fun _ => w32_of (by omega)
    have wj' : Unit → w32 (j : Int) = j := fun _ => w32_of (by omega)
    have wn' : Unit → w32 (n : Int) = n := fun _ => w32_of (by omega)
    have wD' : Unit → w32 ((D : Int) + j) = D + j := fun _ => w32_of (by omega)
    by_cases cn : (n : Int) ≤ sm w j
    · have es : sm w j = n := by omega
      obtain ⟨T', k1, k2⟩ := nx U j j hU (by omega) (by omega)
      refine ⟨T', vc_Parts_haveAgain_4 _ _ ?_, k2⟩
      rw [hU.2.1 173 2 (by decide), h2, hU.2.1 173 5 (by decide), h5, wC' (), wj' (), es]
      exact ⟨fun n => absurd n z0, fun _ => ⟨fun _ => k1, fun n => absurd (Int.le_refl _) n⟩⟩
    · by_cases c1 : w j = 1
      · obtain ⟨T', k1, k2⟩ := ih (j + 1) (wI U 179 (sm w j) j) (by omega) (LsT_w hw hU c1) (by omega)
        rw [s, c1, ek] at k1
        refine ⟨T', vc_Parts_haveAgain_4 _ _ ?_, k2⟩
        rw [hU.2.1 173 2 (by decide), h2, hU.2.1 173 5 (by decide), h5, hU.2.1 173 6 (by decide), h6, wC' (), wj' (), wn' (), ws, wD' (), hU.2.1 176 _ (by decide), h176 j (by omega), w1]
        refine ⟨fun n => absurd n z0, fun _ => ⟨fun n => absurd n cn, fun _ => ⟨z1, fun n => absurd (by omega) n, fun _ => ⟨by omega, fun S3 f => vc_Parts_haveAgain_44 _ _ ?_⟩⟩⟩⟩
        subst f
        exact k1
      · obtain ⟨T', k1, k2⟩ := ih (j + 1) U (by omega) (LsT_s hU c1) (by omega)
        have w0 : w j = 0 := by omega
        rw [s, w0, ek, Int.add_zero] at k1
        refine ⟨T', vc_Parts_haveAgain_4 _ _ ?_, k2⟩
        rw [hU.2.1 173 2 (by decide), h2, hU.2.1 173 5 (by decide), h5, hU.2.1 173 6 (by decide), h6, wC' (), wj' (), wn' (), ws, wD' (), hU.2.1 176 _ (by decide), h176 j (by omega), w1]
        exact ⟨fun n => absurd n z0, fun _ => ⟨fun n => absurd n cn, fun _ => ⟨z1, fun _ => vc_Parts_haveAgain_44 _ _ k1, fun n => absurd (by omega) n⟩⟩⟩
/-- the reference lists what is missing -/
theorem lp_ml {x1 : Int} {w : Nat → Int} (hw : ∀ j, w j = 0 ∨ w j = 1) (hD : D ≤ 32) (h6 : S.1 367 112 = D) (h442 : ∀ d : Nat, d < D → S.1 442 d = w d) {rr : Option Value} {P : ms → Prop} (nx : ∀ U, LsT S U 445 w 48 D → ∃ T', EV q 417 72 [some (.ref 367), some (vI x1), some (vI (sm w D)), some (vI 0), some (vI 0)] [] U rr T' ∧ P T') : ∀ (t d : Nat) (U : ms), d + t = D → LsT S U 445 w 48 d → ∃ T', EV q 417 34 [some (.ref 367), some (vI x1), some (vI (sm w d)), some (vI d), none] [] U rr T' ∧ P T' := by
  intro t
  induction t with
  | zero =>
    intro d U hd hU
    have e : d = D := by omega
    subst e
    obtain ⟨T', k1, k2⟩ := nx U hU
    refine ⟨T', vc_MD_repair_34 _ _ _ ?_, k2⟩
    rw [hU.2.1 367 112 (by decide), h6]
    exact ⟨fun _ => k1, fun n => absurd (Int.le_refl _) n⟩
  | succ t ih =>
    intro d U hd hU
    have wd := hw d
    have nn := sm_nn (u := w) (n := d) (fun i _ => by have := hw i; omega)
    have le := sm_le (n := d) (f := w) (c := 1) (fun i _ => by have := hw i; omega)
    have s : sm w (d + 1) = sm w d + w d := rfl
    have z0 : ¬ (D : Int) ≤ d := by omega
    have z1 : 0 ≤ (d : Int) ∧ (d : Int) < (48 : Nat) := by omega
    have ek : ((d + 1 : Nat) : Int) = (d : Int) + 1 := by omega
    have ws : w32 (sm w d) = sm w d := w32_of (by omega)
    have w1 : w32 (w d) = w d := w32_of (by omega)
    have wD' : Unit → w32 (D : Int) = D := fun _ => w32_of (by omega)
    have wd' : Unit → w32 (d : Int) = d := fun _ => w32_of (by omega)
    by_cases c1 : w d = 1
    · obtain ⟨T', k1, k2⟩ := ih (d + 1) (wI U 445 (sm w d) d) (by omega) (LsT_w hw hU c1)
      rw [s, c1, ek] at k1
      refine ⟨T', vc_MD_repair_34 _ _ _ ?_, k2⟩
      rw [hU.2.1 367 112 (by decide), h6, wD' (), wd' (), hU.2.1 442 _ (by decide), h442 d (by omega), w1, ws]
      refine ⟨fun n => absurd n z0, fun _ => ⟨z1, fun n => absurd n (by omega), fun _ => ⟨by omega, fun S3 f => vc_MD_repair_61 _ _ _ ?_⟩⟩⟩
      subst f
      exact k1
    · obtain ⟨T', k1, k2⟩ := ih (d + 1) U (by omega) (LsT_s hU c1)
      have w0 : w d = 0 := by omega
      rw [s, w0, ek, Int.add_zero] at k1
      refine ⟨T', vc_MD_repair_34 _ _ _ ?_, k2⟩
      rw [hU.2.1 367 112 (by decide), h6, wD' (), wd' (), hU.2.1 442 _ (by decide), h442 d (by omega), w1, ws]
      exact ⟨fun n => absurd n z0, fun _ => ⟨z1, fun _ => vc_MD_repair_61 _ _ _ k1, fun n => absurd w0 n⟩⟩
/-- the reference takes checks -/
theorem lp_mpk {x1 : Int} {w : Nat → Int} (hw : ∀ j, w j = 0 ∨ w j = 1) (hn : n ≤ 16) (hD : D ≤ 32) (hC : C ≤ 16) (h6 : S.1 367 112 = D) (h2 : S.1 367 113 = C) (h442 : ∀ j : Nat, j < C → S.1 442 ((D : Int) + j) = 1 - w j) (hen : (n : Int) ≤ sm w C) {rr : Option Value} {P : ms → Prop} (nx : ∀ (U : ms) (x3 x4 : Int) (j : Nat), LsT S U 444 w n j → (n : Int) ≤ sm w j → j ≤ C → ∃ T', EV q 417 118 [some (.ref 367), some (vI x1), some (vI n), some (vI x3), some (vI x4)] [] U rr T' ∧ P T') : ∀ (t j : Nat) (U : ms), j + t = C → LsT S U 444 w n j → sm w j ≤ n → ∃ T', EV q 417 72 [some (.ref 367), some (vI x1), some (vI n), some (vI (sm w j)), some (vI j)] [] U rr T' ∧ P T' := by
  intro t
  induction t with
  | zero =>
    intro j U hj hU hs
    have e : j = C := by omega
    subst e
    obtain ⟨T', k1, k2⟩ := nx U (sm w j) j j hU (by omega) (by omega)
    refine ⟨T', vc_MD_repair_72 _ _ _ _ ?_, k2⟩
    rw [hU.2.1 367 113 (by decide), h2]
    exact ⟨fun _ => k1, fun n => absurd (Int.le_refl _) n⟩
  | succ t ih =>
    intro j U hj hU hs
    have wj := hw j
    have nn := sm_nn (u := w) (n := j) (fun i _ => by have := hw i; omega)
    have s : sm w (j + 1) = sm w j + w j := rfl
    have z0 : ¬ (C : Int) ≤ j := by omega
    have z1 : 0 ≤ (D : Int) + j ∧ (D : Int) + j < (48 : Nat) := by omega
    have ek : ((j + 1 : Nat) : Int) = (j : Int) + 1 := by omega
    have ws : w32 (sm w j) = sm w j := w32_of (by omega)
    have w1 : w32 (1 - w j) = 1 - w j := w32_of (by omega)
    have wC' : Unit → w32 (C : Int) = C := fun _ => w32_of (by omega)
    have wj' : Unit → w32 (j : Int) = j := fun _ => w32_of (by omega)
    have wn' : Unit → w32 (n : Int) = n := fun _ => w32_of (by omega)
    have wD' : Unit → w32 ((D : Int) + j) = D + j := fun _ => w32_of (by omega)
    by_cases cn : (n : Int) ≤ sm w j
    · obtain ⟨T', k1, k2⟩ := nx U (sm w j) j j hU (by omega) (by omega)
      refine ⟨T', vc_MD_repair_72 _ _ _ _ ?_, k2⟩
      rw [hU.2.1 367 113 (by decide), h2, wC' (), wj' (), wn' (), ws]
      exact ⟨fun n => absurd n z0, fun _ => ⟨fun _ => k1, fun n => absurd cn n⟩⟩
    · by_cases c1 : w j = 1
      · obtain ⟨T', k1, k2⟩ := ih (j + 1) (wI U 444 (sm w j) j) (by omega) (LsT_w hw hU c1) (by omega)
        rw [s, c1, ek] at k1
        refine ⟨T', vc_MD_repair_72 _ _ _ _ ?_, k2⟩
        rw [hU.2.1 367 113 (by decide), h2, hU.2.1 367 112 (by decide), h6, wC' (), wj' (), wn' (), ws, wD' (), hU.2.1 442 _ (by decide), h442 j (by omega), w1]
        refine ⟨fun n => absurd n z0, fun _ => ⟨fun n => absurd n cn, fun _ => ⟨z1, fun n => absurd (by omega) n, fun _ => ⟨by omega, fun S3 f => vc_MD_repair_112 _ _ _ _ ?_⟩⟩⟩⟩
        subst f
        exact k1
      · obtain ⟨T', k1, k2⟩ := ih (j + 1) U (by omega) (LsT_s hU c1) (by omega)
        have w0 : w j = 0 := by omega
        rw [s, w0, ek, Int.add_zero] at k1
        refine ⟨T', vc_MD_repair_72 _ _ _ _ ?_, k2⟩
        rw [hU.2.1 367 113 (by decide), h2, hU.2.1 367 112 (by decide), h6, wC' (), wj' (), wn' (), ws, wD' (), hU.2.1 442 _ (by decide), h442 j (by omega), w1]
        exact ⟨fun n => absurd n z0, fun _ => ⟨fun n => absurd n cn, fun _ => ⟨z1, fun _ => vc_MD_repair_112 _ _ _ _ k1, fun n => absurd (by omega) n⟩⟩⟩
end Pick
