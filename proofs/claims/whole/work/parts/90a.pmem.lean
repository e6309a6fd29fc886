/-! THE MEMORY over any list of shapes (wip/gen/param.py): while the constructors run. A field of kind 4 is null. -/
def sg (sx : List sh_T) (a : Nat) : sh_T := sx.getD a (99, 0, [])
theorem sg_lt {sx : List sh_T} {a t n : Nat} {fs : List (Nat × Nat)} (h : sg sx a = (t, n, fs)) (ht : t < 99) : a < sx.length := by
  rcases Nat.lt_or_ge a sx.length with q | q
  · exact q
  · unfold sg at h
    rw [List.getD_eq_getElem?_getD, List.getElem?_eq_none q] at h
    have h1 : (99 : Nat) = t := congrArg Prod.fst h
    omega
section PMem
variable {sx : List sh_T}
def sv_v (I J : Int → Int) (R : Int → Nat) (k : Nat) (q : Nat × Nat) : Value := match q.1 with
  | 0 => vI (I k)
  | 1 => vL (J k)
  | 2 => .ref q.2
  | 3 => .ref (R k)
  | _ => .null
def sv_f (I J : Int → Int) (R : Int → Nat) (fs : List (Nat × Nat)) : List Value := fs.mapIdx (fun k q => sv_v I J R k q)
def sv_c (I J : Int → Int) (R : Int → Nat) (s : sh_T) : va_E := match s.1 with
  | 0 => .inl (0, s.2.1, .inl (fun k => Int32.ofInt (I k)))
  | 1 => .inl (1, s.2.1, .inl (fun k => Int32.ofInt (I k)))
  | 2 => .inl (2, s.2.1, .inl (fun k => Int32.ofInt (I k)))
  | 3 => .inl (3, s.2.1, .inr (.inl (fun k => Int64.ofInt (J k))))
  | 4 => .inl (4, s.2.1, .inr (.inr (.inr (.inr (sh_r s.2.2)))))
  | 5 => .inl (5, s.2.1, .inr (.inr (.inr (.inr (sh_r s.2.2)))))
  | t + 6 => .inr (t, sv_f I J R s.2.2)
def hq (sx : List sh_T) (S : ms) : en_H := (List.range sx.length).map (fun a => sv_c (S.1 a) (S.2.1 a) (S.2.2 a) (sg sx a))
theorem hq_len (S : ms) : (hq sx S).length = sx.length := by
  unfold hq
  rw [List.length_map, List.length_range]
theorem hq_at {S : ms} {a : Nat} (h : a < sx.length) : (hq sx S)[a]? = some (sv_c (S.1 a) (S.2.1 a) (S.2.2 a) (sg sx a)) := by
  unfold hq
  rw [List.getElem?_map, List.getElem?_range h]
  rfl
theorem hq_none {S : ms} {a : Nat} (h : sx.length ≤ a) : (hq sx S)[a]? = none := List.getElem?_eq_none (by rw [hq_len]; exact h)
theorem hq_obj {S : ms} {a t n : Nat} {fs : List (Nat × Nat)} (h : sg sx a = (t + 6, n, fs)) (ht : t < 90) : (hq sx S)[a]? = some (.inr (t, sv_f (S.1 a) (S.2.1 a) (S.2.2 a) fs)) := by
  rw [hq_at (sg_lt h (by omega)), h]
  rfl
theorem hq_arr {S : ms} {a t n : Nat} (h : sg sx a = (t, n, [])) (ht : t < 3) : (hq sx S)[a]? = some (.inl (t, n, .inl (fun k => Int32.ofInt (S.1 a k)))) := by
  rw [hq_at (sg_lt h (by omega)), h]
  match t, ht with
  | 0, _ => rfl
  | 1, _ => rfl
  | 2, _ => rfl
theorem hq_larr {S : ms} {a n : Nat} (h : sg sx a = (3, n, [])) : (hq sx S)[a]? = some (.inl (3, n, .inr (.inl (fun k => Int64.ofInt (S.2.1 a k))))) := by
  rw [hq_at (sg_lt h (by omega)), h]
  rfl
theorem hq_rarr {S : ms} {a t n : Nat} {fs : List (Nat × Nat)} (h : sg sx a = (t, n, fs)) (ht : t = 4 ∨ t = 5) : (hq sx S)[a]? = some (.inl (t, n, .inr (.inr (.inr (.inr (sh_r fs)))))) := by
  rw [hq_at (sg_lt h (by omega)), h]
  rcases ht with rfl | rfl
  · rfl
  · rfl
theorem hq_set {S S' : ms} {a : Nat} {e : va_E} (h : a < sx.length) (he : e = sv_c (S'.1 a) (S'.2.1 a) (S'.2.2 a) (sg sx a)) (h1 : ∀ b, b ≠ a → S'.1 b = S.1 b) (h2 : ∀ b, b ≠ a → S'.2.1 b = S.2.1 b) (h3 : ∀ b, b ≠ a → S'.2.2 b = S.2.2 b) : (hq sx S).set a e = hq sx S' := by
  apply List.ext_getElem?
  intro i
  by_cases hi : i = a
  · subst hi
    rw [List.getElem?_set_self (by rw [hq_len]; exact h), hq_at h, he]
  · rw [List.getElem?_set_ne (fun q => hi q.symm)]
    rcases Nat.lt_or_ge i sx.length with q | q
    · rw [hq_at q, hq_at q, h1 i hi, h2 i hi, h3 i hi]
    · rw [hq_none q, hq_none q]
theorem sv_f_set {I J I' J' : Int → Int} {R R' : Int → Nat} {fs : List (Nat × Nat)} {k : Nat} {q : Nat × Nat} {v : Value} (hk : fs[k]? = some q) (hv : v = sv_v I' J' R' k q) (ho : ∀ (i : Nat) (z : Nat × Nat), i ≠ k → fs[i]? = some z → sv_v I' J' R' i z = sv_v I J R i z) : (sv_f I J R fs).set k v = sv_f I' J' R' fs := by
  apply List.ext_getElem?
  intro i
  unfold sv_f
  by_cases hi : i = k
  · subst hi
    rw [List.getElem?_set_self (by rw [List.length_mapIdx]; exact (List.getElem?_eq_some_iff.mp hk).1), List.getElem?_mapIdx, hk, hv]
    rfl
  · rw [List.getElem?_set_ne (fun z => hi z.symm), List.getElem?_mapIdx, List.getElem?_mapIdx]
    cases hz : fs[i]? with
    | none => rfl
    | some z => exact congrArg some (ho i z hi hz).symm
theorem sv_f_at {I J : Int → Int} {R : Int → Nat} {fs : List (Nat × Nat)} {k : Nat} {q : Nat × Nat} (hk : fs[k]? = some q) : (sv_f I J R fs)[k]? = some (sv_v I J R k q) := by
  unfold sv_f
  rw [List.getElem?_mapIdx, hk]
  rfl
theorem sv_f_len {I J : Int → Int} {R : Int → Nat} {fs : List (Nat × Nat)} : (sv_f I J R fs).length = fs.length := by
  unfold sv_f
  rw [List.length_mapIdx]
theorem hq_pfI {S : ms} {a t n k z : Nat} {fs : List (Nat × Nat)} {v : Int} (h : sg sx a = (t + 6, n, fs)) (ht : t < 90) (hk : fs[k]? = some (0, z)) : (hq sx S).set a (.inr (t, (sv_f (S.1 a) (S.2.1 a) (S.2.2 a) fs).set k (vI v))) = hq sx (wI S a k v) := by
  refine hq_set (sg_lt h (by omega)) ?_ (fun b hb => ?_) (fun b hb => rfl) (fun b hb => rfl)
  · rw [h]
    show _ = Sum.inr (t, sv_f _ _ _ fs)
    rw [sv_f_set (I' := (wI S a k v).1 a) (J' := S.2.1 a) (R' := S.2.2 a) hk]
    · rfl
    · show _ = vI (if a = a ∧ ((k : Nat) : Int) = k then v else S.1 a k)
      rw [if_pos ⟨rfl, rfl⟩]
    · intro i z hi _
      unfold sv_v
      have : (wI S a k v).1 a i = S.1 a i := if_neg (fun q => hi (by omega))
      rw [this]
  · funext k'
    exact if_neg (fun q => hb q.1)
theorem hq_pfJ {S : ms} {a t n k z : Nat} {fs : List (Nat × Nat)} {v : Int} (h : sg sx a = (t + 6, n, fs)) (ht : t < 90) (hk : fs[k]? = some (1, z)) : (hq sx S).set a (.inr (t, (sv_f (S.1 a) (S.2.1 a) (S.2.2 a) fs).set k (vL v))) = hq sx (wJ S a k v) := by
  refine hq_set (sg_lt h (by omega)) ?_ (fun b hb => rfl) (fun b hb => ?_) (fun b hb => rfl)
  · rw [h]
    show _ = Sum.inr (t, sv_f _ _ _ fs)
    rw [sv_f_set (I' := S.1 a) (J' := (wJ S a k v).2.1 a) (R' := S.2.2 a) hk]
    · rfl
    · show _ = vL (if a = a ∧ ((k : Nat) : Int) = k then v else S.2.1 a k)
      rw [if_pos ⟨rfl, rfl⟩]
    · intro i z hi _
      unfold sv_v
      have : (wJ S a k v).2.1 a i = S.2.1 a i := if_neg (fun q => hi (by omega))
      rw [this]
  · funext k'
    exact if_neg (fun q => hb q.1)
theorem hq_pfR {S : ms} {a t n k z v : Nat} {fs : List (Nat × Nat)} (h : sg sx a = (t + 6, n, fs)) (ht : t < 90) (hk : fs[k]? = some (3, z)) : (hq sx S).set a (.inr (t, (sv_f (S.1 a) (S.2.1 a) (S.2.2 a) fs).set k (.ref v))) = hq sx (wR S a k v) := by
  refine hq_set (sg_lt h (by omega)) ?_ (fun b hb => rfl) (fun b hb => rfl) (fun b hb => ?_)
  · rw [h]
    show _ = Sum.inr (t, sv_f _ _ _ fs)
    rw [sv_f_set (I' := S.1 a) (J' := S.2.1 a) (R' := (wR S a k v).2.2 a) hk]
    · rfl
    · show _ = Value.ref (if a = a ∧ ((k : Nat) : Int) = k then v else S.2.2 a k)
      rw [if_pos ⟨rfl, rfl⟩]
    · intro i z hi _
      unfold sv_v
      have : (wR S a k v).2.2 a i = S.2.2 a i := if_neg (fun q => hi (by omega))
      rw [this]
  · funext k'
    exact if_neg (fun q => hb q.1)
theorem hq_ast {S : ms} {a t n : Nat} {i v : Int} {x : Int32} (h : sg sx a = (t, n, [])) (ht : t < 3) (hi : 0 ≤ w32 i) (hx : x = Int32.ofInt v) : (hq sx S).set a (.inl (t, n, .inl (upd (fun k => Int32.ofInt (S.1 a k)) (Int32.ofInt i).toNatClampNeg x))) = hq sx (wI S a (w32 i) v) := by
  refine hq_set (sg_lt h (by omega)) ?_ (fun b hb => ?_) (fun b hb => rfl) (fun b hb => rfl)
  · have hf : upd (fun k => Int32.ofInt (S.1 a k)) (Int32.ofInt i).toNatClampNeg x = fun k : Nat => Int32.ofInt ((wI S a (w32 i) v).1 a k) := by
      funext k
      unfold upd
      show _ = Int32.ofInt (if a = a ∧ (k : Int) = w32 i then v else S.1 a k)
      have := oI_nat hi
      by_cases hk : k = (Int32.ofInt i).toNatClampNeg
      · rw [if_pos hk, if_pos ⟨rfl, by omega⟩, hx]
      · rw [if_neg hk, if_neg (fun q => hk (by omega))]
    rw [hf, h]
    match t, ht with
    | 0, _ => rfl
    | 1, _ => rfl
    | 2, _ => rfl
  · funext k'
    exact if_neg (fun q => hb q.1)
theorem hq_last {S : ms} {a n : Nat} {i v : Int} (h : sg sx a = (3, n, [])) (hi : 0 ≤ w32 i) : (hq sx S).set a (.inl (3, n, .inr (.inl (vp_updL (fun k => Int64.ofInt (S.2.1 a k)) (Int32.ofInt i).toNatClampNeg (Int64.ofInt v))))) = hq sx (wJ S a (w32 i) v) := by
  refine hq_set (sg_lt h (by omega)) ?_ (fun b hb => rfl) (fun b hb => ?_) (fun b hb => rfl)
  · have hf : vp_updL (fun k => Int64.ofInt (S.2.1 a k)) (Int32.ofInt i).toNatClampNeg (Int64.ofInt v) = fun k : Nat => Int64.ofInt ((wJ S a (w32 i) v).2.1 a k) := by
      funext k
      unfold vp_updL
      show _ = Int64.ofInt (if a = a ∧ (k : Int) = w32 i then v else S.2.1 a k)
      have := oI_nat hi
      by_cases hk : k = (Int32.ofInt i).toNatClampNeg
      · rw [if_pos hk, if_pos ⟨rfl, by omega⟩]
      · rw [if_neg hk, if_neg (fun q => hk (by omega))]
    rw [hf, h]
    rfl
  · funext k'
    exact if_neg (fun q => hb q.1)
theorem hq_cpy {S : ms} {a n1 : Nat} {sp dp n : Int} {f : Nat → Int32} {g : Int → Int} (h : sg sx a = (0, n1, [])) (hs : 0 ≤ w32 sp) (hd : 0 ≤ w32 dp) (hn : 0 ≤ w32 n) (hg : ∀ k : Nat, (k : Int) < w32 n → f ((w32 sp).toNat + k) = Int32.ofInt (g k)) : (hq sx S).set a (.inl (0, n1, .inl (va_cpy f (fun k => Int32.ofInt (S.1 a k)) (Int32.ofInt sp).toNatClampNeg (Int32.ofInt dp).toNatClampNeg (Int32.ofInt n).toNatClampNeg))) = hq sx (wC S a (w32 dp) (w32 n) g) := by
  refine hq_set (sg_lt h (by omega)) ?_ (fun b hb => ?_) (fun b hb => rfl) (fun b hb => rfl)
  · have hf : va_cpy f (fun k => Int32.ofInt (S.1 a k)) (Int32.ofInt sp).toNatClampNeg (Int32.ofInt dp).toNatClampNeg (Int32.ofInt n).toNatClampNeg = fun k : Nat => Int32.ofInt ((wC S a (w32 dp) (w32 n) g).1 a k) := by
      funext k
      unfold va_cpy
      show _ = Int32.ofInt (if a = a ∧ w32 dp ≤ (k : Int) ∧ (k : Int) < w32 dp + w32 n then g (k - w32 dp) else S.1 a k)
      have h1 := oI_nat hs
      have h2 := oI_nat hd
      have h3 := oI_nat hn
      by_cases hk : (Int32.ofInt dp).toNatClampNeg ≤ k ∧ k < (Int32.ofInt dp).toNatClampNeg + (Int32.ofInt n).toNatClampNeg
      · rw [if_pos hk, if_pos ⟨rfl, by omega, by omega⟩]
        have h4 := hg (k - (Int32.ofInt dp).toNatClampNeg) (by omega)
        rw [show (Int32.ofInt sp).toNatClampNeg = (w32 sp).toNat by omega, h4]
        congr 2
        omega
      · rw [if_neg hk, if_neg (fun q => hk (by omega))]
    rw [hf, h]
    rfl
  · funext k'
    exact if_neg (fun q => hb q.1)
end PMem
