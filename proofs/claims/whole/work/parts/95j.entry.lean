/-! addEntry; entry on both sides -/
section EntryOp
variable {q : Nat × (Nat → Int32)} {S : ms} {a b d : Int}
/-- shelf sh with one ENTRY more: its name the m cells of row a1, its text n cells of c from fr on -/
def AE (S : ms) (sh : Nat) (p : Int) (a1 : Nat) (m : Int) (c : Nat) (fr n mo ti : Int) : ms := wI (wI (wI (RW (CL (RW (CL S (sh + 11 + 4 * p.toNat)) (sh + 11 + 4 * p.toNat) 0 m (fun k => S.1 (a1 + 1) k)) (sh + 13 + 4 * p.toNat)) (sh + 13 + 4 * p.toNat) 0 n (fun k => S.1 c (fr + k))) (sh + 3) p mo) (sh + 4) p ti) sh 4 (p + 1)
theorem sp_addEntry {sh a1 n2 c n1 : Nat} (hs : isSh sh) (h1 : isRow a1 n2) (hn2 : n2 < 1000000) (hc : SH c = (0, n1, [])) (hn1 : n1 < 1000000) (ka : a1 + 1 < sh ∨ (sh + 4 < a1 ∧ a1 + 1 < sh + 11)) (kc : c < sh ∨ (sh + 4 < c ∧ c < sh + 11) ∨ sh + 75 ≤ c) {p m fr n mo ti : Int} (ep : S.1 sh 4 = p) (hp : 0 ≤ p ∧ p < 16) (em : S.1 a1 1 = m) (hm : 0 ≤ m ∧ m ≤ 100) (hm2 : m ≤ n2) (hf : 0 ≤ fr) (hn : 0 ≤ n ∧ n ≤ 6000) (hfn : fr + n ≤ n1) : EV q 180 0 [some (.ref sh), some (.ref a1), some (vI mo), some (vI ti), some (.ref c), some (vI fr), some (vI n)] [] S none (AE S sh p a1 m c fr n mo ti) := by
  obtain ⟨i1, i2, i3, i4⟩ := sh_nm hs (n := p.toNat) (by omega)
  have wp : w32 p = p := w32_of (by omega)
  have o1 : ∀ k, (CL S (sh + 11 + 4 * p.toNat)).1 sh k = S.1 sh k := fun k => CL_n _ (by omega)
  have o2 : (CL S (sh + 11 + 4 * p.toNat)).1 a1 1 = m := by rw [CL_n _ (by omega), em]
  have k1 := sp_span (q := q) (S := CL S (sh + 11 + 4 * p.toNat)) i2 h1.2 (by decide) hn2 (p := 0) (fr := 0) (to := m) CL_1 (by decide) (by decide) hm.1 hm2 (by omega)
  have g1 : (fun k => (CL S (sh + 11 + 4 * p.toNat)).1 (a1 + 1) (0 + k)) = fun k => S.1 (a1 + 1) k := by
    funext k
    rw [CL_n _ (by omega), Int.zero_add]
  rw [g1, Int.sub_zero] at k1
  have o3 : (RW (CL S (sh + 11 + 4 * p.toNat)) (sh + 11 + 4 * p.toNat) 0 m (fun k => S.1 (a1 + 1) k)).1 sh 4 = p := by
    rw [RW_at, if_neg (by omega), if_neg (by omega), o1, ep]
  have o4 : (CL (RW (CL S (sh + 11 + 4 * p.toNat)) (sh + 11 + 4 * p.toNat) 0 m (fun k => S.1 (a1 + 1) k)) (sh + 13 + 4 * p.toNat)).1 sh 4 = p := by
    rw [CL_n _ (by omega), o3]
  have k2 := sp_span (q := q) (S := CL (RW (CL S (sh + 11 + 4 * p.toNat)) (sh + 11 + 4 * p.toNat) 0 m (fun k => S.1 (a1 + 1) k)) (sh + 13 + 4 * p.toNat)) i4 hc (by decide) hn1 (p := 0) (fr := fr) (to := fr + n) CL_1 (by decide) hf (by omega) hfn (by omega)
  have g2 : (fun k => (CL (RW (CL S (sh + 11 + 4 * p.toNat)) (sh + 11 + 4 * p.toNat) 0 m (fun k => S.1 (a1 + 1) k)) (sh + 13 + 4 * p.toNat)).1 c (fr + k)) = fun k => S.1 c (fr + k) := by
    funext k
    rw [CL_n _ (by omega), RW_at, if_neg (by omega), if_neg (by omega), CL_n _ (by omega)]
  rw [g2, show fr + n - fr = n by omega] at k2
  have o5 : (RW (CL (RW (CL S (sh + 11 + 4 * p.toNat)) (sh + 11 + 4 * p.toNat) 0 m (fun k => S.1 (a1 + 1) k)) (sh + 13 + 4 * p.toNat)) (sh + 13 + 4 * p.toNat) 0 n (fun k => S.1 c (fr + k))).1 sh 4 = p := by
    rw [RW_at, if_neg (by omega), if_neg (by omega), o4]
  refine vc_Shelf_addEntry mo ti fr n sh (isSh_is hs) a1 n2 h1 c n1 hc ?_
  rw [ep, wp]
  refine ⟨fun z => absurd z (by omega), fun _ => ⟨fun _ => ⟨by omega, _, 100, i1, i2, _, sp_clear i2, ?_⟩, fun z => absurd hp.2 z⟩⟩
  rw [o1, ep, wp, o2]
  refine ⟨by omega, _, 100, i1, i2, _, k1, ?_⟩
  rw [o3, wp]
  refine ⟨by omega, _, 6000, i3, i4, _, sp_clear i4, ?_⟩
  rw [o4, wp]
  refine ⟨by omega, _, 6000, i3, i4, _, k2, ?_⟩
  rw [o5, wp]
  refine ⟨by omega, fun S26 f26 => ?_⟩
  subst f26
  rw [rI_I, if_neg (by omega), o5, wp]
  refine ⟨by omega, fun S28 f28 S29 f29 => ⟨rfl, ?_⟩⟩
  subst f28
  rw [rI_I, if_neg (by omega), rI_I, if_neg (by omega), o5] at f29
  exact f29.symm
theorem lp_entry2 {n p : Int} (h1 : 1 ≤ a) (h2 : a ≤ 12) (hn : n ≤ 6000) (hp : 0 ≤ p ∧ p < 16) {V : ms} (hV : V.1 424 p = n) (h88 : V.1 367 88 = p) : ∀ (t : Nat) (i : Int), 0 ≤ i → i + t = n → EV q 373 156 [some (.ref 367), some (vI a), some (vI b), some (vI d), some (vI p), some (vI i)] [] (wC V 423 (6000 * p) i (fun k => b8 (V.1 369 (12000 * a + k)))) (some (vI p)) (wI (wC V 423 (6000 * p) n (fun k => b8 (V.1 369 (12000 * a + k)))) 367 88 (p + 1)) := by
  have wp : w32 p = p := w32_of (by omega)
  have e2 : ∀ i : Int, (wC V 423 (6000 * p) i (fun k => b8 (V.1 369 (12000 * a + k)))).1 424 p = n := by
    intro i
    rw [rI_C, if_neg (by omega), hV]
  intro t
  induction t with
  | zero =>
    intro i hi ht
    have e : i = n := by omega
    subst e
    refine vc_MD_entry_156 _ _ _ _ _ ?_
    rw [wp, e2]
    refine ⟨by omega, fun _ S2 f2 => ⟨rfl, ?_⟩, fun c => absurd (Int.le_refl _) c⟩
    rw [rI_C, if_neg (by omega), h88] at f2
    exact f2.symm
  | succ t ih =>
    intro i hi ht
    have ei : w32 i = i := w32_of (by omega)
    have en : w32 n = n := w32_of (by omega)
    have ex : w32 (12000 * a + i) = 12000 * a + i := w32_of (by omega)
    have ey : w32 (6000 * p + i) = 6000 * p + i := w32_of (by omega)
    refine vc_MD_entry_156 _ _ _ _ _ ?_
    rw [wp, e2, ei, en, ex, ey]
    refine ⟨by omega, fun c => absurd c (by omega), fun _ => ⟨by omega, by omega, fun S3 f3 => ?_⟩⟩
    have e9 : (wC V 423 (6000 * p) i (fun k => b8 (V.1 369 (12000 * a + k)))).1 369 (12000 * a + i) = V.1 369 (12000 * a + i) := by
      rw [rI_C, if_neg (by omega)]
    rw [e9] at f3
    have := wC_gd V 423 (6000 * p) i (fun k => b8 (V.1 369 (12000 * a + k))) hi
    rw [this] at f3
    subst f3
    exact ih (i + 1) (by omega) (by omega)
/-- the reference's ENTRY p -/
def EM (U : ms) (p m n a b d : Int) : ms :=
  let V := wI (wI (wI (wI (wI (wC U 419 (100 * p) m (fun k => b8 (U.1 431 k))) 420 p m) 367 103 0) 421 p b) 422 p d) 424 p n
  wI (wC V 423 (6000 * p) n (fun k => b8 (V.1 369 (12000 * a + k)))) 367 88 (p + 1)
theorem lp_entry1 {m n p : Int} (h1 : 1 ≤ a) (h2 : a ≤ 12) (hn0 : 0 ≤ n) (hn : n ≤ 6000) (hp : 0 ≤ p ∧ p < 16) (hm : m ≤ 100) {U : ms} (hU : U.1 367 103 = m) (h88 : U.1 367 88 = p) (h370 : U.1 370 a = n) : ∀ (t : Nat) (i : Int), 0 ≤ i → i + t = m → EV q 373 73 [some (.ref 367), some (vI a), some (vI b), some (vI d), some (vI p), some (vI i)] [] (wC U 419 (100 * p) i (fun k => b8 (U.1 431 k))) (some (vI p)) (EM U p m n a b d) := by
  have wp : w32 p = p := w32_of (by omega)
  have wa : w32 a = a := w32_of (by omega)
  have e2 : ∀ i : Int, (wC U 419 (100 * p) i (fun k => b8 (U.1 431 k))).1 367 103 = m := by
    intro i
    rw [rI_C, if_neg (by omega), hU]
  intro t
  induction t with
  | zero =>
    intro i hi ht
    have e : i = m := by omega
    subst e
    refine vc_MD_entry_73 _ _ _ _ _ ?_
    rw [wp, e2, wa]
    refine ⟨fun _ => ⟨by omega, fun S2 f2 S3 f3 => ⟨by omega, fun S5 f5 => ⟨by omega, fun S7 f7 => ⟨by omega, by omega, fun S10 f10 => ?_⟩⟩⟩⟩, fun c => absurd (Int.le_refl _) c⟩
    subst f2 f3 f5 f7
    rw [show (wI (wI (wI (wI (wC U 419 (100 * p) i (fun k => b8 (U.1 431 k))) 420 p i) 367 103 0) 421 p b) 422 p d).1 370 a = n by rw [rI_I, if_neg (by omega), rI_I, if_neg (by omega), rI_I, if_neg (by omega), rI_I, if_neg (by omega), rI_C, if_neg (by omega), h370]] at f10
    have key := lp_entry2 (q := q) (a := a) (b := b) (d := d) (n := n) (p := p) h1 h2 hn hp (V := S10) (by rw [f10, rI_I, if_pos ⟨rfl, rfl⟩]) (by rw [f10, rI_I, if_neg (by omega), rI_I, if_neg (by omega), rI_I, if_neg (by omega), rI_I, if_neg (by omega), rI_I, if_neg (by omega), rI_C, if_neg (by omega), h88]) n.toNat 0 (by decide) (by omega)
    rw [wC_0] at key
    subst f10
    exact key
  | succ t ih =>
    intro i hi ht
    have ei : w32 i = i := w32_of (by omega)
    have en : w32 m = m := w32_of (by omega)
    have ey : w32 (100 * p + i) = 100 * p + i := w32_of (by omega)
    refine vc_MD_entry_73 _ _ _ _ _ ?_
    rw [wp, e2, ei, en, ey]
    refine ⟨fun c => absurd c (by omega), fun _ => ⟨by omega, by omega, fun S3 f3 => ?_⟩⟩
    have e9 : (wC U 419 (100 * p) i (fun k => b8 (U.1 431 k))).1 431 i = U.1 431 i := by
      rw [rI_C, if_neg (by omega)]
    rw [e9] at f3
    have := wC_gd U 419 (100 * p) i (fun k => b8 (U.1 431 k)) hi
    rw [this] at f3
    subst f3
    exact ih (i + 1) (by omega) (by omega)
end EntryOp
