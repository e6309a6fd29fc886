/-! THE FRAME: a run over few cells is a run over many. σ says which of the many cells each of the few is. -/
def en_L2 (σ : Nat → Nat) (lv : en_L) : en_L := lv.map (fun o => o.map (en_v σ))
def en_E (σ : Nat → Nat) (e : va_E) : va_E := en_e σ (fun t => t) e
/-- the few cells g lie in h at σ -/
def en_Em (σ : Nat → Nat) (g h : en_H) : Prop := (∀ (p : Nat) (e : va_E), g[p]? = some e → h[σ p]? = some (en_E σ e)) ∧ (∀ p q : Nat, p < g.length → q < g.length → σ p = σ q → p = q) ∧ (∀ k : Nat, σ (en_b + k) = en_b + k) ∧ g.length ≤ en_b ∧ h.length ≤ en_b
/-- what isn't of the few stays -/
def en_Kp (σ : Nat → Nat) (g h h' : en_H) : Prop := h'.length = h.length ∧ ∀ a : Nat, (∀ p : Nat, p < g.length → σ p ≠ a) → h'[a]? = h[a]?
theorem en_Em.set {σ : Nat → Nat} {g h : en_H} (hE : en_Em σ g h) {p : Nat} {e0 e : va_E} (hp : g[p]? = some e0) : en_Em σ (g.set p e) (h.set (σ p) (en_E σ e)) ∧ en_Kp σ g h (h.set (σ p) (en_E σ e)) := by
  obtain ⟨h1, h2, h3, h4, h5⟩ := hE
  have hpl : p < g.length := (List.getElem?_eq_some_iff.mp hp).1
  have hsl : σ p < h.length := (List.getElem?_eq_some_iff.mp (h1 p e0 hp)).1
  refine ⟨⟨fun q x hq => ?_, fun a b ha hb hab => ?_, h3, by rw [List.length_set]; exact h4, by rw [List.length_set]; exact h5⟩, by rw [List.length_set], fun a ha => ?_⟩
  · by_cases hqp : q = p
    · subst hqp
      rw [List.getElem?_set_self hpl] at hq
      cases hq
      rw [List.getElem?_set_self hsl]
    · rw [List.getElem?_set_ne (fun z => hqp z.symm)] at hq
      have hql : q < g.length := (List.getElem?_eq_some_iff.mp hq).1
      rw [List.getElem?_set_ne (fun z => hqp (h2 q p hql hpl z.symm))]
      exact h1 q x hq
  · rw [List.length_set] at ha hb
    exact h2 a b ha hb hab
  · rw [List.getElem?_set_ne (ha p hpl)]
theorem en_Kp.rf {σ : Nat → Nat} {g h : en_H} : en_Kp σ g h h := ⟨rfl, fun _ _ => rfl⟩
theorem en_Kp.tr {σ : Nat → Nat} {g g' h h1 h2 : en_H} (hl : g'.length = g.length) (a : en_Kp σ g h h1) (b : en_Kp σ g' h1 h2) : en_Kp σ g h h2 := ⟨b.1.trans a.1, fun q hq => (b.2 q (fun p hp => hq p (by rw [← hl]; exact hp))).trans (a.2 q hq)⟩
section EnFr
variable {σ : Nat → Nat}
theorem en_op_fr {i : Instr} {n : Nat} {st st' : List Value} (h : en_op i st = some (n, st')) : en_op i (st.map (en_v σ)) = some (n, st'.map (en_v σ)) := by
  cases i with
  | iconst k => cases h; rfl
  | bipush k => cases h; rfl
  | sipush k => cases h; rfl
  | lconst k => cases h; rfl
  | iadd => obtain ⟨x, y, r, rfl, rfl, rfl⟩ := en_ii_ok h; rfl
  | isub => obtain ⟨x, y, r, rfl, rfl, rfl⟩ := en_ii_ok h; rfl
  | imul => obtain ⟨x, y, r, rfl, rfl, rfl⟩ := en_ii_ok h; rfl
  | iand => obtain ⟨x, y, r, rfl, rfl, rfl⟩ := en_ii_ok h; rfl
  | ior => obtain ⟨x, y, r, rfl, rfl, rfl⟩ := en_ii_ok h; rfl
  | ixor => obtain ⟨x, y, r, rfl, rfl, rfl⟩ := en_ii_ok h; rfl
  | ishl => obtain ⟨x, y, r, rfl, rfl, rfl⟩ := en_ii_ok h; rfl
  | ishr => obtain ⟨x, y, r, rfl, rfl, rfl⟩ := en_ii_ok h; rfl
  | iushr => obtain ⟨x, y, r, rfl, rfl, rfl⟩ := en_ii_ok h; rfl
  | idiv =>
    obtain ⟨x, y, r, rfl, rfl, rfl, hy⟩ := en_id_ok h
    show (if y = 0 then none else some (1, .int (x / y) :: r.map (en_v σ))) = _
    rw [if_neg hy]; rfl
  | irem =>
    obtain ⟨x, y, r, rfl, rfl, rfl, hy⟩ := en_id_ok h
    show (if y = 0 then none else some (1, .int (x - x / y * y) :: r.map (en_v σ))) = _
    rw [if_neg hy]; rfl
  | ladd => obtain ⟨x, y, r, rfl, rfl, rfl⟩ := en_ll_ok h; rfl
  | lsub => obtain ⟨x, y, r, rfl, rfl, rfl⟩ := en_ll_ok h; rfl
  | lmul => obtain ⟨x, y, r, rfl, rfl, rfl⟩ := en_ll_ok h; rfl
  | land => obtain ⟨x, y, r, rfl, rfl, rfl⟩ := en_ll_ok h; rfl
  | lor => obtain ⟨x, y, r, rfl, rfl, rfl⟩ := en_ll_ok h; rfl
  | lxor => obtain ⟨x, y, r, rfl, rfl, rfl⟩ := en_ll_ok h; rfl
  | ldiv =>
    obtain ⟨x, y, r, rfl, rfl, rfl, hy⟩ := en_lD_ok h
    show (if y = 0 then none else some (1, .long (x / y) :: r.map (en_v σ))) = _
    rw [if_neg hy]; rfl
  | lrem =>
    obtain ⟨x, y, r, rfl, rfl, rfl, hy⟩ := en_lD_ok h
    show (if y = 0 then none else some (1, .long (x - x / y * y) :: r.map (en_v σ))) = _
    rw [if_neg hy]; rfl
  | lshl => obtain ⟨x, y, r, rfl, rfl, rfl⟩ := en_li_ok h; rfl
  | lshr => obtain ⟨x, y, r, rfl, rfl, rfl⟩ := en_li_ok h; rfl
  | lushr => obtain ⟨x, y, r, rfl, rfl, rfl⟩ := en_li_ok h; rfl
  | lcmp => obtain ⟨x, y, r, rfl, rfl, rfl⟩ := en_lc_ok h; rfl
  | i2l => obtain ⟨x, r, rfl, rfl, rfl⟩ := en_i1_ok h; rfl
  | i2b => obtain ⟨x, r, rfl, rfl, rfl⟩ := en_i1_ok h; rfl
  | l2i => obtain ⟨x, r, rfl, rfl, rfl⟩ := en_l1_ok h; rfl
  | ineg => obtain ⟨x, r, rfl, rfl, rfl⟩ := en_i1_ok h; rfl
  | lneg => obtain ⟨x, r, rfl, rfl, rfl⟩ := en_l1_ok h; rfl
  | dup =>
    change en_dup st = _ at h
    show en_dup _ = _
    unfold en_dup at h
    split at h
    · split at h
      · rename_i hc
        cases h
        show (if (en_v σ _).category = 1 then _ else _) = _
        rw [en_v_cat, if_pos hc]; rfl
      · cases h
    · cases h
  | pop =>
    change en_pop st = _ at h
    show en_pop _ = _
    unfold en_pop at h
    split at h
    · split at h
      · rename_i hc
        cases h
        show (if (en_v σ _).category = 1 then _ else _) = _
        rw [en_v_cat, if_pos hc]
      · cases h
    · cases h
  | dup2 =>
    change en_dup2 st = _ at h
    show en_dup2 _ = _
    unfold en_dup2 at h
    split at h
    · split at h
      · rename_i hc
        cases h
        show (if (en_v σ _).category = 1 ∧ (en_v σ _).category = 1 then _ else _) = _
        rw [en_v_cat, en_v_cat, if_pos hc]; rfl
      · rename_i hn
        split at h
        · rename_i hc
          cases h
          show (if (en_v σ _).category = 1 ∧ (en_v σ _).category = 1 then _ else if (en_v σ _).category = 2 then _ else _) = _
          rw [en_v_cat, en_v_cat, if_neg hn, if_pos hc]; rfl
        · cases h
    · split at h
      · rename_i hc
        cases h
        show (if (en_v σ _).category = 2 then _ else _) = _
        rw [en_v_cat, if_pos hc]; rfl
      · cases h
    · cases h
  | _ => cases h
theorem en_br_fr {i : Instr} {len pc pc' : Nat} {st st' : List Value} (h : en_br i len pc st = some (pc', st')) : en_br i len pc (st.map (en_v σ)) = some (pc', st'.map (en_v σ)) := by
  cases i with
  | goto off =>
    change (if 0 ≤ (pc : Int) + off ∧ len = 3 then some (en_tg pc off, st) else none) = _ at h
    show (if 0 ≤ (pc : Int) + off ∧ len = 3 then some (en_tg pc off, st.map (en_v σ)) else none) = _
    split at h
    · rename_i hc
      cases h
      rw [if_pos hc]
    · cases h
  | ifCond cd off =>
    unfold en_br at h
    dsimp only at h
    split at h
    · split at h
      · rename_i hc
        cases h
        show (if 0 ≤ (pc : Int) + off ∧ len = 3 then _ else none) = _
        rw [if_pos hc]
      · cases h
    · cases h
  | if_icmp cd off =>
    unfold en_br at h
    dsimp only at h
    split at h
    · split at h
      · rename_i hc
        cases h
        show (if 0 ≤ (pc : Int) + off ∧ len = 3 then _ else none) = _
        rw [if_pos hc]
      · cases h
    · cases h
  | tableswitch d lo hi offs =>
    unfold en_br at h
    dsimp only at h
    split at h
    · rename_i x r
      show (if x.toInt < lo ∨ hi < x.toInt then (if 0 ≤ (pc : Int) + d then some (en_tg pc d, r.map (en_v σ)) else none) else match offs[(x.toInt - lo).toNat]? with
        | some off => if 0 ≤ (pc : Int) + off then some (en_tg pc off, r.map (en_v σ)) else none
        | none => none) = _
      split at h
      · rename_i hc
        rw [if_pos hc]
        split at h
        · rename_i h0
          cases h
          rw [if_pos h0]
        · cases h
      · rename_i hc
        rw [if_neg hc]
        split at h
        · rename_i off ho
          split at h
          · rename_i h0
            cases h
            try rw [ho]
            try dsimp only
            rw [if_pos h0]
          · cases h
        · cases h
    · cases h
  | lookupswitch d ps =>
    unfold en_br at h
    dsimp only at h
    split at h
    · split at h
      · rename_i hc
        cases h
        show (if _ ∧ _ then _ else none) = _
        rw [if_pos hc]
      · cases h
    · cases h
  | _ => cases h
theorem en_L2_at {lv : en_L} {x : Nat} {v : Value} (h : lv[x]? = some (some v)) : (en_L2 σ lv)[x]? = some (some (en_v σ v)) := by
  unfold en_L2
  rw [List.getElem?_map, h]
  rfl
theorem en_L2_len (lv : en_L) : (en_L2 σ lv).length = lv.length := by
  unfold en_L2
  rw [List.length_map]
theorem en_L2_set {lv : en_L} {x : Nat} {o : Option Value} : en_L2 σ (lv.set x o) = (en_L2 σ lv).set x (o.map (en_v σ)) := by
  unfold en_L2
  rw [List.map_set]
theorem en_cl_fr (lv : en_L) (x : Nat) : en_cl (en_L2 σ lv) x = en_L2 σ (en_cl lv x) := by
  cases x with
  | zero => rfl
  | succ j =>
    show (match (en_L2 σ lv)[j]? with
      | some (some w) => if w.category = 2 then (en_L2 σ lv).set j none else en_L2 σ lv
      | _ => en_L2 σ lv) = en_L2 σ (match lv[j]? with
      | some (some w) => if w.category = 2 then lv.set j none else lv
      | _ => lv)
    have hm : (en_L2 σ lv)[j]? = (lv[j]?).map (fun o => o.map (en_v σ)) := by
      unfold en_L2
      rw [List.getElem?_map]
    try rw [hm]
    cases lv[j]? with
    | none => rfl
    | some o =>
      cases o with
      | none => rfl
      | some w =>
        show (if (en_v σ w).category = 2 then (en_L2 σ lv).set j none else en_L2 σ lv) = en_L2 σ (if w.category = 2 then lv.set j none else lv)
        rw [en_v_cat]
        by_cases hc : w.category = 2
        · rw [if_pos hc, if_pos hc, en_L2_set]; rfl
        · rw [if_neg hc, if_neg hc]
theorem en_st1_fr (lv : en_L) (x : Nat) (v : Value) : en_st1 (en_L2 σ lv) x (en_v σ v) = en_L2 σ (en_st1 lv x v) := by
  unfold en_st1
  rw [en_cl_fr, en_L2_set]
  rfl
theorem en_st2_fr (lv : en_L) (x : Nat) (v : Value) : en_st2 (en_L2 σ lv) x (en_v σ v) = en_L2 σ (en_st2 lv x v) := by
  unfold en_st2
  rw [en_cl_fr, en_L2_set, en_L2_set]
  rfl
theorem en_kd_fr (kd : Nat) (v : Value) : en_kd kd (en_v σ v) = en_kd kd v := by cases v <;> rfl
theorem en_lo_fr {i : Instr} {len : Nat} {lv lv' : en_L} {st st' : List Value} (h : en_lo i len lv st = some (lv', st')) : en_lo i len (en_L2 σ lv) (st.map (en_v σ)) = some (en_L2 σ lv', st'.map (en_v σ)) := by
  unfold en_lo at h ⊢
  split at h
  · rename_i n x kd hld
    split at h
    · rename_i v hv
      split at h
      · rename_i hc
        cases h
        try rw [hld]
        try dsimp only
        rw [en_L2_at hv]
        try dsimp only
        rw [en_kd_fr, if_pos hc]
        rfl
      · cases h
    · cases h
  · rename_i hld
    try rw [hld]
    try dsimp only
    split at h
    · rename_i n x kd hsd
      try rw [hsd]
      try dsimp only
      split at h
      · rename_i v r
        rw [List.map_cons]
        try dsimp only
        rw [en_kd_fr, en_L2_len]
        split at h
        · rename_i hc
          rw [if_pos hc]
          split at h
          · rename_i hk
            rw [if_pos hk]
            split at h
            · rename_i hn
              cases h
              rw [if_pos hn, en_st2_fr]
            · cases h
          · rename_i hk
            rw [if_neg hk]
            split at h
            · rename_i hn
              cases h
              rw [if_pos hn, en_st1_fr]
            · cases h
        · cases h
      · cases h
    · rename_i hsd
      try rw [hsd]
      try dsimp only
      split at h
      · rename_i x n
        try dsimp only
        split at h
        · rename_i v hv
          split at h
          · rename_i hc
            cases h
            have hv2 : (en_L2 σ lv)[x]? = some (some (.int v)) := en_L2_at hv
            rw [hv2]
            try dsimp only
            rw [if_pos hc]
            have := en_st1_fr (σ := σ) lv x (.int (v + Int32.ofInt n))
            rw [← this]
            rfl
          · cases h
        · cases h
      · cases h
end EnFr
