/-! RUN UP TO A PLACE, calls with it: for the constructors, by evaluation -/
def en_cl1 (P : en_Pg) (tb : en_T) (cr : Nat → Nat) (f j : Nat) (S : en_S) : Option en_S := match en_pI P j S.1 with
  | none => none
  | some (i, len) => match en_cal P j i len S.2.2.1 S.2.2.2.1 with
    | some (_, j', as, rest) => if en_fit P j j' rest S.2.2.2.2.1 S.2.2.2.2.2 = true ∧ (en_ent1 as).length ≤ en_ml P j' then (match en_run P tb cr f j' (0, en_ent (en_ml P j') as, [], S.2.2.2.1, 0, 0) with
      | some (r, h') => if h'.length = S.2.2.2.1.length + en_mc P j' ∧ h'.length ≤ en_b then some (S.1 + 3, S.2.1, r.toList ++ rest, h', S.2.2.2.2.1 + en_mc P j', S.2.2.2.2.2 + en_ms P j') else none
      | none => none) else none
    | none => none
def en_to (P : en_Pg) (tb : en_T) (cr : Nat → Nat) (f j stop n : Nat) : en_S → Option en_S := Nat.rec (motive := fun _ => en_S → Option en_S) (fun S => bif Nat.beq S.1 stop then some S else none) (fun _ ih S => bif Nat.beq S.1 stop then some S else match en_nx P tb cr j S with
  | some S' => ih S'
  | none => match en_cl1 P tb cr f j S with
    | some S' => ih S'
    | none => none) n
section EnTo
variable {P : en_Pg} {tb : en_T} {cr : Nat → Nat} {f j stop : Nat} {r : Option Value} {h' : en_H}
theorem ev_cl1 {S S' : en_S} (h : en_cl1 P tb cr f j S = some S') (k : en_Ev P tb cr j S' r h') : en_Ev P tb cr j S r h' := by
  obtain ⟨pc, lv, st, g, cs, ss⟩ := S
  unfold en_cl1 at h
  dsimp only at h
  split at h
  · cases h
  · rename_i i len hI
    split at h
    · rename_i kd j' as rest hcal
      split at h
      · rename_i hc
        split at h
        · rename_i r1 g1 hrun
          split at h
          · rename_i hl
            cases h
            exact ev_call hI hcal hc.1 hc.2 ⟨f, hrun⟩ hl k
          · cases h
        · cases h
      · cases h
    · cases h
theorem ev_to (n : Nat) : ∀ {S S' : en_S}, en_to P tb cr f j stop n S = some S' → en_Ev P tb cr j S' r h' → en_Ev P tb cr j S r h' := by
  induction n with
  | zero =>
    intro S S' h k
    have h2 : (bif Nat.beq S.1 stop then some S else none) = some S' := h
    cases hb : Nat.beq S.1 stop
    · rw [hb] at h2
      cases h2
    · rw [hb] at h2
      cases h2
      exact k
  | succ n ih =>
    intro S S' h k
    have h2 : (bif Nat.beq S.1 stop then some S else match en_nx P tb cr j S with
      | some S' => en_to P tb cr f j stop n S'
      | none => match en_cl1 P tb cr f j S with
        | some S' => en_to P tb cr f j stop n S'
        | none => none) = some S' := h
    cases hb : Nat.beq S.1 stop
    · rw [hb, cond_false] at h2
      split at h2
      · rename_i S1 h1
        exact ev_nx h1 (ih h2 k)
      · split at h2
        · rename_i S1 h1
          exact ev_cl1 h1 (ih h2 k)
        · cases h2
    · rw [hb] at h2
      cases h2
      exact k
end EnTo
