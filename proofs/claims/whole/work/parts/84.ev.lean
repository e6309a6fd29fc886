/-! runs that come to an end, without their length -/
def en_Ev (P : en_Pg) (tb : en_T) (cr : Nat → Nat) (j : Nat) (S : en_S) (r : Option Value) (h' : en_H) : Prop := ∃ n, en_run P tb cr n j S = some (r, h')
section EnEv
variable {P : en_Pg} {tb : en_T} {cr : Nat → Nat} {j : Nat} {S S' : en_S} {r : Option Value} {h' : en_H}
theorem en_run_mono : ∀ (n j : Nat) (S : en_S) (q : Option Value × en_H), en_run P tb cr n j S = some q → en_run P tb cr (n + 1) j S = some q := by
  intro n
  induction n with
  | zero => intro j S q h; cases h
  | succ n ih =>
    intro j S q h
    rw [en_run_s] at h ⊢
    split at h
    · cases h
    · rename_i i len hI
      try rw [hI]
      try dsimp only
      split at h
      · rename_i r2 hr2
        try rw [hr2]
        exact h
      · rename_i hr2
        try rw [hr2]
        try dsimp only
        split at h
        · rename_i kd j' as rest hcal
          try rw [hcal]
          try dsimp only
          split at h
          · rename_i hc
            rw [if_pos hc]
            split at h
            · rename_i r1 h1 hrun1
              rw [ih _ _ _ hrun1]
              try dsimp only
              split at h
              · rename_i hc2
                rw [if_pos hc2]
                exact ih _ _ _ h
              · cases h
            · cases h
          · cases h
        · rename_i hcal
          try rw [hcal]
          try dsimp only
          split at h
          · rename_i S' hstp
            try rw [hstp]
            exact ih _ _ _ h
          · cases h
theorem en_run_le {n k : Nat} (hk : n ≤ k) {q : Option Value × en_H} (h : en_run P tb cr n j S = some q) : en_run P tb cr k j S = some q := by
  induction hk with
  | refl => exact h
  | step _ ih => exact en_run_mono _ _ _ _ ih
def en_nx (P : en_Pg) (tb : en_T) (cr : Nat → Nat) (j : Nat) (S : en_S) : Option en_S := match en_pI P j S.1 with
  | none => none
  | some (i, len) => match en_ret P j i len S.2.2.1 S.2.2.2.2.1 S.2.2.2.2.2 with
    | some _ => none
    | none => match en_cal P j i len S.2.2.1 S.2.2.2.1 with
      | some _ => none
      | none => en_stp P tb cr j i len S
def en_bk (P : en_Pg) (tb : en_T) (cr : Nat → Nat) (j : Nat) (k : Nat) : en_S → Option en_S := Nat.rec (motive := fun _ => en_S → Option en_S) (fun S => some S) (fun _ ih S => match en_nx P tb cr j S with
  | some S' => ih S'
  | none => none) k
theorem ev_nx (h : en_nx P tb cr j S = some S') (k : en_Ev P tb cr j S' r h') : en_Ev P tb cr j S r h' := by
  obtain ⟨n, hn⟩ := k
  refine ⟨n + 1, ?_⟩
  rw [en_run_s]
  unfold en_nx at h
  split at h
  · cases h
  · rename_i i len hI
    split at h
    · cases h
    · rename_i hr2
      split at h
      · cases h
      · rename_i hcal
        try rw [hI]
        try dsimp only
        try rw [hr2]
        try dsimp only
        try rw [hcal]
        try dsimp only
        rw [h]
        exact hn
theorem ev_bk (k : Nat) : ∀ {S : en_S}, en_bk P tb cr j k S = some S' → en_Ev P tb cr j S' r h' → en_Ev P tb cr j S r h' := by
  induction k with
  | zero => intro S h hk; cases h; exact hk
  | succ k ih =>
    intro S h hk
    have h2 : (match en_nx P tb cr j S with
      | some S' => en_bk P tb cr j k S'
      | none => none) = some S' := h
    split at h2
    · rename_i S1 h1
      exact ev_nx h1 (ih h2 hk)
    · cases h2
theorem ev_ret {pc len cs ss : Nat} {lv : en_L} {st : List Value} {h : en_H} {i : Instr} (hI : en_pI P j pc = some (i, len)) (hr : en_ret P j i len st cs ss = some r) : en_Ev P tb cr j (pc, lv, st, h, cs, ss) r h := by
  refine ⟨1, ?_⟩
  rw [en_run_s]
  dsimp only
  rw [hI]
  dsimp only
  rw [hr]
theorem ev_call {pc len cs ss kd j' : Nat} {lv : en_L} {st as rest : List Value} {h h1 : en_H} {i : Instr} {r1 : Option Value} (hI : en_pI P j pc = some (i, len)) (hcal : en_cal P j i len st h = some (kd, j', as, rest)) (hfit : en_fit P j j' rest cs ss = true) (hent : (en_ent1 as).length ≤ en_ml P j') (hrun : en_Ev P tb cr j' (0, en_ent (en_ml P j') as, [], h, 0, 0) r1 h1) (hlen : h1.length = h.length + en_mc P j' ∧ h1.length ≤ en_b)
    (k : en_Ev P tb cr j (pc + 3, lv, r1.toList ++ rest, h1, cs + en_mc P j', ss + en_ms P j') r h') : en_Ev P tb cr j (pc, lv, st, h, cs, ss) r h' := by
  obtain ⟨n1, g1⟩ := hrun
  obtain ⟨n2, g2⟩ := k
  refine ⟨n1 + n2 + 1, ?_⟩
  rw [en_run_s]
  dsimp only
  rw [hI]
  dsimp only
  rw [en_x4 hcal]
  dsimp only
  rw [hcal]
  dsimp only
  rw [if_pos ⟨hfit, hent⟩, en_run_le (Nat.le_add_right n1 n2) g1]
  dsimp only
  rw [if_pos hlen]
  exact en_run_le (Nat.le_add_left n2 n1) g2
/-- a place where the way parts -/
theorem ev_if {b : Bool} {x y : Nat} {rest : en_L × List Value × en_H × Nat × Nat} (ht : b = true → en_Ev P tb cr j (x, rest) r h') (hf : b = false → en_Ev P tb cr j (y, rest) r h') : en_Ev P tb cr j (bif b then x else y, rest) r h' := by
  cases b
  · exact hf rfl
  · exact ht rfl
/-- which of many cells the few are: by a list of places -/
def en_sg (l : List Nat) (p : Nat) : Nat := match l[p]? with
  | some q => q
  | none => p
def en_put (l : List Nat) (gc g : en_H) : en_H := (List.range gc.length).foldl (fun a p => match gc[p]? with
  | some e => a.set (en_sg l p) (en_E (en_sg l) e)
  | none => a) g
theorem en_sg_at {l : List Nat} {p q : Nat} (h : l[p]? = some q) : en_sg l p = q := by
  unfold en_sg
  rw [h]
theorem en_sg_Em {l : List Nat} {gc g : en_H} (hl : l.map (fun q => g[q]?) = gc.map (fun e => some (en_E (en_sg l) e))) (hnd : va_nd l = true) (hgc : gc.length ≤ en_b) (hg : g.length ≤ en_b) : en_Em (en_sg l) gc g := by
  have hlen : l.length = gc.length := by
    have := congrArg List.length hl
    rw [List.length_map, List.length_map] at this
    exact this
  refine ⟨fun p e hp => ?_, fun p q hp hq hpq => ?_, fun k => ?_, hgc, hg⟩
  · have hpl : p < l.length := by rw [hlen]; exact (List.getElem?_eq_some_iff.mp hp).1
    have h1 := congrArg (fun z => z[p]?) hl
    try dsimp only at h1
    rw [List.getElem?_map, List.getElem?_map, hp, List.getElem?_eq_getElem hpl] at h1
    rw [en_sg_at (List.getElem?_eq_getElem hpl)]
    exact Option.some.inj h1
  · have hpl : p < l.length := by rw [hlen]; exact hp
    have hql : q < l.length := by rw [hlen]; exact hq
    rw [en_sg_at (List.getElem?_eq_getElem hpl), en_sg_at (List.getElem?_eq_getElem hql)] at hpq
    exact va_nd_inj l hnd p q _ (List.getElem?_eq_getElem hpl) (by rw [List.getElem?_eq_getElem hql, hpq])
  · unfold en_sg
    rw [List.getElem?_eq_none (by omega)]
theorem en_put_eq {l : List Nat} {gc g h1 : en_H} (hl : l.length = gc.length) (hnd : va_nd l = true) (hE : ∀ (p : Nat) (e : va_E), gc[p]? = some e → h1[en_sg l p]? = some (en_E (en_sg l) e)) (hK : en_Kp (en_sg l) gc g h1) : h1 = en_put l gc g := by
  have key : ∀ (n : Nat), n ≤ gc.length → ∀ a : Nat, ((List.range n).foldl (fun a p => match gc[p]? with
      | some e => a.set (en_sg l p) (en_E (en_sg l) e)
      | none => a) g)[a]? = if ∃ p, p < n ∧ en_sg l p = a then h1[a]? else g[a]? := by
    intro n
    induction n with
    | zero =>
      intro _ a
      rw [if_neg (by rintro ⟨p, hp, -⟩; omega)]
      rfl
    | succ n ih =>
      intro hn a
      have hnl : n < gc.length := by omega
      rw [List.range_succ, List.foldl_append]
      simp only [List.foldl_cons, List.foldl_nil]
      rw [List.getElem?_eq_getElem hnl]
      dsimp only
      have hz := hE n _ (List.getElem?_eq_getElem hnl)
      by_cases ha : en_sg l n = a
      · subst ha
        rw [if_pos ⟨n, by omega, rfl⟩, hz, List.getElem?_set_self]
        have hlt : en_sg l n < h1.length := (List.getElem?_eq_some_iff.mp hz).1
        rw [hK.1] at hlt
        have hlen : ∀ (xs : List Nat) (b : en_H), (xs.foldl (fun a p => match gc[p]? with
            | some e => a.set (en_sg l p) (en_E (en_sg l) e)
            | none => a) b).length = b.length := by
          intro xs
          induction xs with
          | nil => intro b; rfl
          | cons x xs ih2 =>
            intro b
            rw [List.foldl_cons, ih2]
            split
            · rw [List.length_set]
            · rfl
        rw [hlen]
        exact hlt
      · rw [List.getElem?_set_ne ha, ih (by omega) a]
        by_cases hq : ∃ p, p < n ∧ en_sg l p = a
        · obtain ⟨p, hp, hpa⟩ := hq
          rw [if_pos ⟨p, hp, hpa⟩, if_pos ⟨p, by omega, hpa⟩]
        · rw [if_neg hq, if_neg]
          rintro ⟨p, hp, hpa⟩
          rcases Nat.lt_or_ge p n with z | z
          · exact hq ⟨p, z, hpa⟩
          · have : p = n := by omega
            subst this
            exact ha hpa
  apply List.ext_getElem?
  intro a
  unfold en_put
  rw [key gc.length (Nat.le_refl _) a]
  by_cases hq : ∃ p, p < gc.length ∧ en_sg l p = a
  · rw [if_pos hq]
  · rw [if_neg hq]
    exact hK.2 a (fun p hp hpa => hq ⟨p, hp, hpa⟩)
/-- A CALL by the callee's run over its own few cells: l says where these are among the caller's -/
theorem ev_callF {pc len cs ss kd j' : Nat} {lv : en_L} {st rest as0 : List Value} {g gc gc' : en_H} {i : Instr} {r0 : Option Value} (l : List Nat) (hrun : en_Ev P tb cr j' (0, en_ent (en_ml P j') as0, [], gc, 0, 0) r0 gc') (hI : en_pI P j pc = some (i, len)) (hcal : en_cal P j i len st g = some (kd, j', as0.map (en_v (en_sg l)), rest)) (hfit : en_fit P j j' rest cs ss = true) (hent : (en_ent1 as0).length ≤ en_ml P j') (hmc : en_mc P j' = 0) (hl : l.map (fun q => g[q]?) = gc.map (fun e => some (en_E (en_sg l) e))) (hnd : va_nd l = true) (hgc : gc.length ≤ en_b) (hg : g.length ≤ en_b)
    (k : en_Ev P tb cr j (pc + 3, lv, (r0.map (en_v (en_sg l))).toList ++ rest, en_put l gc' g, cs + en_mc P j', ss + en_ms P j') r h') : en_Ev P tb cr j (pc, lv, st, g, cs, ss) r h' := by
  have hE := en_sg_Em hl hnd hgc hg
  obtain ⟨n, hn⟩ := hrun
  obtain ⟨h1, e1, e2, e3, e4⟩ := en_run_fr (σ := en_sg l) n j' 0 0 0 _ [] gc gc' g r0 hmc hE hn
  have hlen : l.length = gc'.length := by
    have := congrArg List.length hl
    rw [List.length_map, List.length_map] at this
    rw [this, e4]
  have e3' : en_Kp (en_sg l) gc' g h1 := ⟨e3.1, fun a ha => e3.2 a (fun p hp => ha p (by rw [e4]; exact hp))⟩
  have hput := en_put_eq hlen hnd e2.1 e3'
  rw [← hput] at k
  have hent2 := en_ent_fr (σ := en_sg l) (en_ml P j') as0
  refine ev_call hI hcal hfit (by rw [hent2.2]; exact hent) ⟨n, ?_⟩ ⟨by rw [e3.1, hmc]; rfl, by rw [e3.1]; exact hg⟩ k
  rw [hent2.1]
  exact e1
end EnEv
