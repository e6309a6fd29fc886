/-! A MACHINE OF SHAPES for the constructors: what they make hangs on no content of cells -/
/-- what the references that may change are at first -/
def R0 (a : Nat) (k : Int) : Nat := if a = 9 then 1 else if a = 10 then 11 else if a = 367 then 368 else if k = 13 then 193 else 268
def sr_m (a k : Nat) : Bool := (Nat.beq a 9 && Nat.beq k 1) || ((Nat.beq a 10 && Nat.beq k 2) || ((Nat.beq a 367 && Nat.beq k 13) || (Nat.beq a 0 && (Nat.beq k 13 || Nat.beq k 14))))
abbrev sr_S : Type := Nat × en_L × List Value × List sh_T × Nat × Nat
def sr_k (v : Value) : Nat × Nat := match v with
  | .int _ => (0, 0)
  | .long _ => (1, 0)
  | _ => (4, 0)
def sr_d (v : Value) : Bool := match v with
  | .int x => decide (x = 0)
  | .long x => decide (x = 0)
  | .null => true
  | _ => false
def sr_gf (P : en_Pg) (cr : Nat → Nat) (j x : Nat) (st : List Value) (sx : List sh_T) : Option (List Value) := match st with
  | .ref a :: r => match en_pF P j x with
    | some (ci, k) => if (sg sx a).1 = ci + 6 ∧ ci < 90 then (match (sg sx a).2.2[k]? with
      | some (2, v) => some (.ref v :: r)
      | some (3, _) => some (.ref (R0 a k) :: r)
      | _ => none) else none
    | none => none
  | _ => none
def sr_pf (P : en_Pg) (cr : Nat → Nat) (j x : Nat) (st : List Value) (sx : List sh_T) : Option (List Value × List sh_T) := match st with
  | .ref v :: .ref a :: r => match en_pF P j x with
    | some (ci, k) => if ((sg sx a).1 = ci + 6 ∧ ci < 90) ∧ k < (sg sx a).2.2.length ∧ (en_nf (en_pY P ci k).1 (.ref v) && (!(en_pY P ci k).2 || Nat.beq (en_ini P j) (ci + 1))) = true then (if sr_m a k = true then (if R0 a k = v then some (r, sx.set a ((sg sx a).1, (sg sx a).2.1, (sg sx a).2.2.set k (3, 0))) else none) else some (r, sx.set a ((sg sx a).1, (sg sx a).2.1, (sg sx a).2.2.set k (2, v)))) else none
    | none => none
  | _ => none
def sr_sa (P : en_Pg) (cr : Nat → Nat) (st : List Value) (sx : List sh_T) : Option (List Value × List sh_T) := match st with
  | .ref v :: .int i :: .ref a :: r => if ((sg sx a).1 = 4 ∨ (sg sx a).1 = 5) ∧ (sg sx v).1 = cr (sg sx a).1 + 6 ∧ en_bad i (sg sx a).2.1 = false ∧ (sg sx a).2.2.length = (sg sx a).2.1 ∧ cr (sg sx a).1 < 90 then some (r, sx.set a ((sg sx a).1, (sg sx a).2.1, (sg sx a).2.2.set i.toNatClampNeg (0, v))) else none
  | _ => none
abbrev sr_Q : Type := Option (List Value × List sh_T × Nat × Nat)
def sr_new (P : en_Pg) (cr : Nat → Nat) (j x : Nat) (st : List Value) (sx : List sh_T) (cs ss : Nat) : sr_Q := match en_pN P j x with
  | some ci => if (cs + 1 ≤ en_mc P j ∧ ss + (en_pD P ci).length ≤ en_ms P j ∧ sx.length < en_b) ∧ (en_pD P ci).all sr_d = true then some (.ref sx.length :: st, sx ++ [(ci + 6, (en_pD P ci).length, (en_pD P ci).map sr_k)], cs + 1, ss + (en_pD P ci).length) else none
  | none => none
def sr_nar (P : en_Pg) (cr : Nat → Nat) (j : Nat) (a : ArrayType) (st : List Value) (sx : List sh_T) (cs ss : Nat) : sr_Q := match en_nat a with
  | some t => match st with
    | .int n :: r => if (¬ n < 0 ∧ n.toNatClampNeg ≤ 1000000 ∧ cs + 1 ≤ en_mc P j ∧ ss + n.toNatClampNeg ≤ en_ms P j ∧ sx.length < en_b) ∧ t < 4 then some (.ref sx.length :: r, sx ++ [(t, n.toNatClampNeg, [])], cs + 1, ss + n.toNatClampNeg) else none
    | _ => none
  | none => none
def sr_naq (P : en_Pg) (cr : Nat → Nat) (j x : Nat) (st : List Value) (sx : List sh_T) (cs ss : Nat) : sr_Q := match en_pA P j x with
  | some t => match st with
    | .int n :: r => if (t = 4 ∨ t = 5) ∧ ¬ n < 0 ∧ n.toNatClampNeg ≤ 1000000 ∧ cs + 1 ≤ en_mc P j ∧ ss + n.toNatClampNeg ≤ en_ms P j ∧ sx.length < en_b then some (.ref sx.length :: r, sx ++ [(t, n.toNatClampNeg, List.replicate n.toNatClampNeg (1, 0))], cs + 1, ss + n.toNatClampNeg) else none
    | _ => none
  | none => none
def sr_hp (P : en_Pg) (cr : Nat → Nat) (j : Nat) (i : Instr) (len : Nat) (st : List Value) (sx : List sh_T) (cs ss : Nat) : sr_Q := match i with
  | .getfield x => if len = 3 then (match sr_gf P cr j x st sx with
    | some s => some (s, sx, cs, ss)
    | none => none) else none
  | .putfield x => if len = 3 then (match sr_pf P cr j x st sx with
    | some (s, t) => some (s, t, cs, ss)
    | none => none) else none
  | .aastore => if len = 1 then (match sr_sa P cr st sx with
    | some (s, t) => some (s, t, cs, ss)
    | none => none) else none
  | .new x => if len = 3 then sr_new P cr j x st sx cs ss else none
  | .newarray a => if len = 2 then sr_nar P cr j a st sx cs ss else none
  | .anewarray x => if len = 3 then sr_naq P cr j x st sx cs ss else none
  | .ldc x => if len = 2 then (match en_pK P j x with
    | some (.int v) => some (.int v :: st, sx, cs, ss)
    | _ => none) else none
  | .invokespecial x => if len = 3 ∧ en_pM P j x = some (4, 0) then (match en_obj P j st with
    | some s => some (s, sx, cs, ss)
    | none => none) else none
  | .invokestatic x => if len = 3 then (match en_pM P j x with
    | some (kd + 6, 0) => (match en_mth P j (kd + 6) cs ss st with
      | some s => some (s, sx, cs, ss)
      | none => none)
    | _ => none) else none
  | _ => none
section SrOk
variable {P : en_Pg} {cr : Nat → Nat} {sx : List sh_T} {S : ms} {tb : en_T}
def sr_z (n : Nat) (S : ms) : Prop := (∀ (a : Nat) (k : Int), n ≤ a → S.1 a k = 0) ∧ (∀ (a : Nat) (k : Int), n ≤ a → S.2.1 a k = 0) ∧ S.2.2 = R0
theorem hq_push {s : sh_T} : hq sx S ++ [sv_c (S.1 sx.length) (S.2.1 sx.length) (S.2.2 sx.length) s] = hq (sx ++ [s]) S := by
  apply List.ext_getElem?
  intro i
  rcases Nat.lt_trichotomy i sx.length with h | h | h
  · rw [List.getElem?_append_left (by rw [hq_len]; exact h), hq_at h, hq_at (by rw [List.length_append]; omega)]
    unfold sg
    rw [List.getD_eq_getElem?_getD, List.getD_eq_getElem?_getD, List.getElem?_append_left h]
  · subst h
    rw [List.getElem?_append_right (by rw [hq_len]; exact Nat.le_refl _), hq_len, Nat.sub_self, hq_at (by rw [List.length_append]; simp)]
    unfold sg
    rw [List.getD_eq_getElem?_getD, List.getElem?_append_right (Nat.le_refl _), Nat.sub_self]
    rfl
  · rw [List.getElem?_eq_none (by rw [List.length_append, hq_len]; simp; omega), hq_none (by rw [List.length_append]; simp; omega)]
theorem sg_set {a i : Nat} {s : sh_T} (ha : a < sx.length) : sg (sx.set a s) i = if i = a then s else sg sx i := by
  unfold sg
  rw [List.getD_eq_getElem?_getD, List.getD_eq_getElem?_getD]
  by_cases h : i = a
  · subst h
    rw [List.getElem?_set_self ha, if_pos rfl]
    rfl
  · rw [List.getElem?_set_ne (fun q => h q.symm), if_neg h]
theorem hq_sset {a : Nat} {s : sh_T} (ha : a < sx.length) : (hq sx S).set a (sv_c (S.1 a) (S.2.1 a) (S.2.2 a) s) = hq (sx.set a s) S := by
  apply List.ext_getElem?
  intro i
  by_cases hi : i = a
  · subst hi
    rw [List.getElem?_set_self (by rw [hq_len]; exact ha), hq_at (by rw [List.length_set]; exact ha), sg_set ha, if_pos rfl]
  · rw [List.getElem?_set_ne (fun q => hi q.symm)]
    rcases Nat.lt_or_ge i sx.length with q | q
    · rw [hq_at q, hq_at (by rw [List.length_set]; exact q), sg_set ha, if_neg hi]
    · rw [hq_none q, hq_none (by rw [List.length_set]; exact q)]
theorem sr_gf_ok {j x : Nat} {st st' : List Value} (hR : S.2.2 = R0) (h : sr_gf P cr j x st sx = some st') : en_gf P j x st (hq sx S) = some st' := by
  unfold sr_gf at h
  split at h
  · rename_i a r
    split at h
    · rename_i ci k hF
      split at h
      · rename_i hc
        have hs : sg sx a = (ci + 6, (sg sx a).2.1, (sg sx a).2.2) := by rw [← hc.1]
        unfold en_gf
        dsimp only
        rw [hF]
        dsimp only
        rw [hq_obj hs hc.2]
        dsimp only
        rw [if_pos (Nat.beq_refl ci)]
        split at h
        · rename_i v hv
          cases h
          rw [sv_f_at hv]
          rfl
        · rename_i z hv
          cases h
          rw [sv_f_at hv]
          show some (Value.ref (S.2.2 a k) :: r) = _
          rw [hR]
        · cases h
      · cases h
    · cases h
  · cases h
theorem sr_pf_ok {j x : Nat} {st st' : List Value} {sx' : List sh_T} (hR : S.2.2 = R0) (h : sr_pf P cr j x st sx = some (st', sx')) : en_pf P j x st (hq sx S) = some (st', hq sx' S) ∧ sx'.length = sx.length := by
  unfold sr_pf at h
  split at h
  · rename_i v a r
    split at h
    · rename_i ci k hF
      split at h
      · rename_i hc
        obtain ⟨hc, hk, hn⟩ := hc
        have hs : sg sx a = (ci + 6, (sg sx a).2.1, (sg sx a).2.2) := by rw [← hc.1]
        have ha : a < sx.length := sg_lt hs (by omega)
        rw [Bool.and_eq_true] at hn
        have key : ∀ q : Nat × Nat, sv_v (S.1 a) (S.2.1 a) (S.2.2 a) k q = .ref v → (hq sx S).set a (.inr (ci, (sv_f (S.1 a) (S.2.1 a) (S.2.2 a) (sg sx a).2.2).set k (.ref v))) = hq (sx.set a ((sg sx a).1, (sg sx a).2.1, (sg sx a).2.2.set k q)) S := by
          intro q hq1
          rw [← hq_sset ha]
          congr 1
          rw [hc.1]
          show _ = Sum.inr (ci, sv_f _ _ _ ((sg sx a).2.2.set k q))
          congr 2
          apply List.ext_getElem?
          intro i
          unfold sv_f
          by_cases hi : i = k
          · subst hi
            rw [List.getElem?_set_self (by rw [List.length_mapIdx]; exact hk), List.getElem?_mapIdx, List.getElem?_set_self hk, ← hq1]
            rfl
          · rw [List.getElem?_set_ne (fun z => hi z.symm), List.getElem?_mapIdx, List.getElem?_mapIdx, List.getElem?_set_ne (fun z => hi z.symm)]
        have base : en_pf P j x (.ref v :: .ref a :: r) (hq sx S) = some (r, (hq sx S).set a (.inr (ci, (sv_f (S.1 a) (S.2.1 a) (S.2.2 a) (sg sx a).2.2).set k (.ref v)))) := by
          unfold en_pf
          dsimp only
          rw [hF]
          dsimp only
          rw [hq_obj hs hc.2]
          dsimp only
          rw [if_pos (by rw [Nat.beq_refl, hn.1, hn.2, sv_f_len, Nat.ble_eq_true_of_le (Nat.succ_le_of_lt hk)]; rfl)]
        rw [base]
        split at h
        · split at h
          · rename_i hv
            cases h
            rw [key (3, 0) (by show Value.ref (S.2.2 a k) = _; rw [hR, hv])]
            exact ⟨rfl, List.length_set⟩
          · cases h
        · cases h
          rw [key (2, v) rfl]
          exact ⟨rfl, List.length_set⟩
      · cases h
    · cases h
  · cases h
theorem sr_sa_ok {st st' : List Value} {sx' : List sh_T} (h : sr_sa P cr st sx = some (st', sx')) : en_sa cr st (hq sx S) = some (st', hq sx' S) ∧ sx'.length = sx.length := by
  unfold sr_sa at h
  split at h
  · rename_i v i a r
    split at h
    · rename_i hc
      obtain ⟨h4, hv, hb, hl, hcr⟩ := hc
      cases h
      have hs : sg sx a = ((sg sx a).1, (sg sx a).2.1, (sg sx a).2.2) := rfl
      have ha : a < sx.length := sg_lt hs (by omega)
      have hs2 : sg sx v = (cr (sg sx a).1 + 6, (sg sx v).2.1, (sg sx v).2.2) := by rw [← hv]
      refine ⟨?_, List.length_set⟩
      have hlt : i.toNatClampNeg < (sg sx a).2.1 := by
        unfold en_bad at hb
        rw [Bool.or_eq_false_iff] at hb
        rcases Nat.lt_or_ge i.toNatClampNeg (sg sx a).2.1 with z | z
        · exact z
        · rw [Nat.ble_eq_true_of_le z] at hb
          cases hb.2
      unfold en_sa
      dsimp only
      rw [hq_rarr hs h4]
      dsimp only
      rw [hq_obj hs2 hcr]
      dsimp only
      rw [if_pos (by rw [hb, Nat.beq_refl]; rcases h4 with z | z <;> rw [z] <;> rfl), ← hq_sset ha]
      have hf : va_up (sh_r (sg sx a).2.2) i.toNatClampNeg (some v) = sh_r ((sg sx a).2.2.set i.toNatClampNeg (0, v)) := by
        funext k
        unfold va_up sh_r
        by_cases hk : k = i.toNatClampNeg
        · subst hk
          rw [if_pos rfl, List.getElem?_set_self (by rw [hl]; exact hlt)]
          rfl
        · rw [if_neg hk, List.getElem?_set_ne (fun z => hk z.symm)]
      rw [hf]
      have hcell : sv_c (S.1 a) (S.2.1 a) (S.2.2 a) ((sg sx a).1, (sg sx a).2.1, (sg sx a).2.2.set i.toNatClampNeg (0, v)) = .inl ((sg sx a).1, (sg sx a).2.1, .inr (.inr (.inr (.inr (sh_r ((sg sx a).2.2.set i.toNatClampNeg (0, v))))))) := by
        rcases h4 with z | z <;> rw [z] <;> rfl
      rw [hcell]
    · cases h
  · cases h
theorem sr_def {R : Int → Nat} {I J : Int → Int} (hI : ∀ k, I k = 0) (hJ : ∀ k, J k = 0) : ∀ (D : List Value), D.all sr_d = true → sv_f I J R (D.map sr_k) = D := by
  intro D hD
  apply List.ext_getElem?
  intro i
  unfold sv_f
  rw [List.getElem?_mapIdx, List.getElem?_map]
  cases hd : D[i]? with
  | none => rfl
  | some v =>
    have hv := List.all_eq_true.mp hD v (List.mem_of_getElem? hd)
    show some (sv_v I J R i (sr_k v)) = some v
    congr 1
    unfold sr_d at hv
    split at hv
    · rename_i x
      have := of_decide_eq_true hv
      subst this
      show vI (I i) = _
      rw [hI]
      rfl
    · rename_i x
      have := of_decide_eq_true hv
      subst this
      show vL (J i) = _
      rw [hJ]
      rfl
    · rfl
    · cases hv
theorem sr_hp_ok {j len cs ss cs' ss' : Nat} {i : Instr} {st st' : List Value} {sx' : List sh_T} (hz : sr_z sx.length S) (h : sr_hp P cr j i len st sx cs ss = some (st', sx', cs', ss')) : en_hp P tb cr j i len st (hq sx S) cs ss = some (st', hq sx' S, cs', ss') ∧ sx.length ≤ sx'.length := by
  obtain ⟨z1, z2, z3⟩ := hz
  cases i with
  | getfield x =>
    unfold sr_hp at h
    dsimp only at h
    split at h
    · rename_i hl
      split at h
      · rename_i s hs
        cases h
        unfold en_hp
        dsimp only
        rw [if_pos hl, sr_gf_ok z3 hs]
        exact ⟨rfl, Nat.le_refl _⟩
      · cases h
    · cases h
  | putfield x =>
    unfold sr_hp at h
    dsimp only at h
    split at h
    · rename_i hl
      split at h
      · rename_i s t hs
        cases h
        obtain ⟨e1, e2⟩ := sr_pf_ok z3 hs
        unfold en_hp
        dsimp only
        rw [if_pos hl, e1]
        exact ⟨rfl, by omega⟩
      · cases h
    · cases h
  | aastore =>
    unfold sr_hp at h
    dsimp only at h
    split at h
    · rename_i hl
      split at h
      · rename_i s t hs
        cases h
        obtain ⟨e1, e2⟩ := sr_sa_ok (S := S) hs
        unfold en_hp
        dsimp only
        rw [if_pos hl, e1]
        exact ⟨rfl, by omega⟩
      · cases h
    · cases h
  | new x =>
    unfold sr_hp at h
    dsimp only at h
    split at h
    · rename_i hl
      unfold sr_new at h
      split at h
      · rename_i ci hN
        split at h
        · rename_i hc
          obtain ⟨hc, hd⟩ := hc
          cases h
          unfold en_hp
          dsimp only
          rw [if_pos hl]
          unfold en_new
          rw [hN]
          dsimp only
          rw [hq_len, if_pos hc, ← hq_push]
          have e : sv_c (S.1 sx.length) (S.2.1 sx.length) (S.2.2 sx.length) (ci + 6, (en_pD P ci).length, (en_pD P ci).map sr_k) = .inr (ci, en_pD P ci) := by
            show Sum.inr (ci, sv_f _ _ _ ((en_pD P ci).map sr_k)) = _
            rw [sr_def (fun k => z1 _ k (Nat.le_refl _)) (fun k => z2 _ k (Nat.le_refl _)) _ hd]
          rw [e]
          exact ⟨rfl, by rw [List.length_append]; omega⟩
        · cases h
      · cases h
    · cases h
  | newarray a =>
    unfold sr_hp at h
    dsimp only at h
    split at h
    · rename_i hl
      unfold sr_nar at h
      split at h
      · rename_i t ht
        split at h
        · rename_i n r
          split at h
          · rename_i hc
            obtain ⟨hc, ht4⟩ := hc
            cases h
            unfold en_hp
            dsimp only
            rw [if_pos hl]
            unfold en_nar
            rw [ht]
            dsimp only
            rw [hq_len, if_pos hc, ← hq_push]
            have e1 : (fun k : Nat => Int32.ofInt (S.1 sx.length k)) = fun _ => 0 := by
              funext k
              rw [z1 _ _ (Nat.le_refl _)]
              rfl
            have e2 : (fun k : Nat => Int64.ofInt (S.2.1 sx.length k)) = fun _ => 0 := by
              funext k
              rw [z2 _ _ (Nat.le_refl _)]
              rfl
            have e : sv_c (S.1 sx.length) (S.2.1 sx.length) (S.2.2 sx.length) (t, n.toNatClampNeg, []) = .inl (t, n.toNatClampNeg, bif t == 3 then .inr (.inl (fun _ => 0)) else .inl (fun _ => 0)) := by
              match t, ht4 with
              | 0, _ => show Sum.inl (0, n.toNatClampNeg, Sum.inl (fun k : Nat => Int32.ofInt (S.1 sx.length k))) = _; rw [e1]; rfl
              | 1, _ => show Sum.inl (1, n.toNatClampNeg, Sum.inl (fun k : Nat => Int32.ofInt (S.1 sx.length k))) = _; rw [e1]; rfl
              | 2, _ => show Sum.inl (2, n.toNatClampNeg, Sum.inl (fun k : Nat => Int32.ofInt (S.1 sx.length k))) = _; rw [e1]; rfl
              | 3, _ => show Sum.inl (3, n.toNatClampNeg, Sum.inr (Sum.inl (fun k : Nat => Int64.ofInt (S.2.1 sx.length k)))) = _; rw [e2]; rfl
            rw [e]
            exact ⟨rfl, by rw [List.length_append]; omega⟩
          · cases h
        · cases h
      · cases h
    · cases h
  | anewarray x =>
    unfold sr_hp at h
    dsimp only at h
    split at h
    · rename_i hl
      unfold sr_naq at h
      split at h
      · rename_i t ht
        split at h
        · rename_i n r
          split at h
          · rename_i hc
            cases h
            unfold en_hp
            dsimp only
            rw [if_pos hl]
            unfold en_naq
            rw [ht]
            dsimp only
            rw [hq_len, if_pos hc, ← hq_push]
            have e1 : sh_r (List.replicate n.toNatClampNeg (1, 0)) = fun _ => none := by
              funext k
              unfold sh_r
              split
              · rename_i y hy
                have := List.eq_of_mem_replicate (List.mem_of_getElem? hy)
                cases this
              · rfl
            have e : sv_c (S.1 sx.length) (S.2.1 sx.length) (S.2.2 sx.length) (t, n.toNatClampNeg, List.replicate n.toNatClampNeg (1, 0)) = .inl (t, n.toNatClampNeg, .inr (.inr (.inr (.inr (fun _ => none))))) := by
              rw [← e1]
              rcases hc.1 with z | z <;> rw [z] <;> rfl
            rw [e]
            exact ⟨rfl, by rw [List.length_append]; omega⟩
          · cases h
        · cases h
      · cases h
    · cases h
  | ldc x =>
    unfold sr_hp at h
    dsimp only at h
    split at h
    · rename_i hl
      split at h
      · rename_i v hv
        cases h
        unfold en_hp
        dsimp only
        rw [if_pos hl, hv]
        exact ⟨rfl, Nat.le_refl _⟩
      · cases h
    · cases h
  | invokespecial x =>
    unfold sr_hp at h
    dsimp only at h
    split at h
    · rename_i hl
      split at h
      · rename_i s hs
        cases h
        unfold en_hp
        dsimp only
        rw [if_pos hl, hs]
        exact ⟨rfl, Nat.le_refl _⟩
      · cases h
    · cases h
  | invokestatic x =>
    unfold sr_hp at h
    dsimp only at h
    split at h
    · rename_i hl
      split at h
      · rename_i kd hM
        split at h
        · rename_i s hs
          cases h
          unfold en_hp
          dsimp only
          rw [if_pos hl, hM]
          show en_up cs ss (hq sx S) (en_mth P j (kd + 6) cs ss st) = _ ∧ _
          rw [hs]
          exact ⟨rfl, Nat.le_refl _⟩
        · cases h
      · cases h
    · cases h
  | _ => cases h
end SrOk
