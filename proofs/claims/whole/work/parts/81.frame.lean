section EnFh
variable {σ : Nat → Nat} {P : en_Pg} {tb : en_T} {cr : Nat → Nat} {j x : Nat} {st st' : List Value} {g g' h : en_H}
theorem en_Em.none {a : Nat} (hE : en_Em σ g h) (ha : ¬ a < en_b) : g[a]? = none ∧ σ a = a ∧ h[a]? = none := by
  obtain ⟨-, -, h3, h4, h5⟩ := hE
  have hae : a = en_b + (a - en_b) := by omega
  refine ⟨List.getElem?_eq_none (by omega), ?_, List.getElem?_eq_none (by omega)⟩
  rw [hae]
  exact h3 _
theorem en_gf_fr (hE : en_Em σ g h) (hq : en_gf P j x st g = some st') : en_gf P j x (st.map (en_v σ)) h = some (st'.map (en_v σ)) := by
  unfold en_gf at hq
  split at hq
  · rename_i a r
    split at hq
    · rename_i ci k hf
      split at hq
      · rename_i ci' fs he
        split at hq
        · rename_i hci
          split at hq
          · rename_i v hv
            cases hq
            have he2 : h[σ a]? = some (.inr (ci', fs.map (en_v σ))) := hE.1 a _ he
            have hv2 : (fs.map (en_v σ))[k]? = some (en_v σ v) := by rw [List.getElem?_map, hv]; rfl
            simp only [en_gf, List.map_cons, en_v, hf, he2, if_pos hci, hv2]
          · cases hq
        · cases hq
      · cases hq
    · cases hq
  · cases hq
theorem en_pf_fr (hE : en_Em σ g h) (hq : en_pf P j x st g = some (st', g')) : ∃ h', en_pf P j x (st.map (en_v σ)) h = some (st'.map (en_v σ), h') ∧ en_Em σ g' h' ∧ en_Kp σ g h h' ∧ g'.length = g.length := by
  unfold en_pf at hq
  split at hq
  · rename_i v a r
    split at hq
    · rename_i ci k hf
      split at hq
      · rename_i ci' fs he
        split at hq
        · rename_i hc
          cases hq
          have he2 : h[σ a]? = some (.inr (ci', fs.map (en_v σ))) := hE.1 a _ he
          have hc2 : (Nat.beq ci ci' && (Nat.ble (k + 1) (fs.map (en_v σ)).length && (en_nf (en_pY P ci k).1 (en_v σ v) && (!(en_pY P ci k).2 || Nat.beq (en_ini P j) (ci + 1))))) = true := by rw [List.length_map, en_nf_v]; exact hc
          obtain ⟨e1, e2⟩ := hE.set (e := .inr (ci, fs.set k v)) he
          refine ⟨_, ?_, e1, e2, by rw [List.length_set]⟩
          have hset : en_E σ (.inr (ci, fs.set k v)) = .inr (ci, (fs.map (en_v σ)).set k (en_v σ v)) := by
            show Sum.inr (ci, (fs.set k v).map (en_v σ)) = _
            rw [List.map_set]
          rw [hset]
          show (match en_pF P j x with
            | some (ci, k) => match h[σ a]? with
              | some (.inr (ci', fs)) => if (Nat.beq ci ci' && (Nat.ble (k + 1) fs.length && (en_nf (en_pY P ci k).1 (en_v σ v) && (!(en_pY P ci k).2 || Nat.beq (en_ini P j) (ci + 1))))) = true then some (st'.map (en_v σ), h.set (σ a) (.inr (ci, fs.set k (en_v σ v)))) else none
              | _ => none
            | none => none) = _
          rw [hf]
          try dsimp only
          rw [he2]
          try dsimp only
          rw [if_pos hc2]
        · cases hq
      · cases hq
    · cases hq
  · cases hq
theorem en_ai_fr {t : Nat} (hE : en_Em σ g h) (hq : en_ai tb t st g = some st') : en_ai tb t (st.map (en_v σ)) h = some (st'.map (en_v σ)) := by
  unfold en_ai at hq
  split at hq
  · rename_i i a r
    split at hq
    · rename_i t' n f he
      split at hq
      · rename_i hc
        cases hq
        have he2 : h[σ a]? = some (.inl (t', n, .inl f)) := hE.1 a _ he
        simp only [en_ai, List.map_cons, en_v, he2, if_pos hc]
      · cases hq
    · cases hq
    · split at hq
      · cases hq
      · rename_i hab
        have ha : ¬ a < en_b := fun z => hab (Or.inl z)
        obtain ⟨-, e2, e3⟩ := hE.none ha
        split at hq
        · rename_i n f ht
          split at hq
          · rename_i hc
            cases hq
            simp only [en_ai, List.map_cons, en_v, e2, e3, if_neg hab, ht, if_pos hc]
          · cases hq
        · cases hq
  · cases hq
theorem en_al_fr (hE : en_Em σ g h) (hq : en_al st g = some st') : en_al (st.map (en_v σ)) h = some (st'.map (en_v σ)) := by
  unfold en_al at hq
  split at hq
  · rename_i i a r
    split at hq
    · rename_i t' n f he
      split at hq
      · rename_i hc
        cases hq
        have he2 : h[σ a]? = some (.inl (t', n, .inr (.inl f))) := hE.1 a _ he
        simp only [en_al, List.map_cons, en_v, he2, if_pos hc]
      · cases hq
    · cases hq
  · cases hq
theorem en_aa_fr (hE : en_Em σ g h) (hq : en_aa st g = some st') : en_aa (st.map (en_v σ)) h = some (st'.map (en_v σ)) := by
  unfold en_aa at hq
  split at hq
  · rename_i i a r
    split at hq
    · rename_i t' n f he
      split at hq
      · rename_i hc
        cases hq
        have he2 : h[σ a]? = some (.inl (t', n, .inr (.inr (.inr (.inr (fun i => (f i).map σ)))))) := hE.1 a _ he
        show en_aa (.int i :: .ref (σ a) :: r.map (en_v σ)) h = some (en_v σ (va_rf (f i.toNatClampNeg)) :: r.map (en_v σ))
        rw [en_rfm]
        simp only [en_aa, he2, if_pos hc]
      · cases hq
    · cases hq
  · cases hq
theorem en_si_fr {t : Nat} {nar : Int32 → Int32} (hE : en_Em σ g h) (hq : en_si t nar st g = some (st', g')) : ∃ h', en_si t nar (st.map (en_v σ)) h = some (st'.map (en_v σ), h') ∧ en_Em σ g' h' ∧ en_Kp σ g h h' ∧ g'.length = g.length := by
  unfold en_si at hq
  split at hq
  · rename_i v i a r
    split at hq
    · rename_i t' n f he
      split at hq
      · rename_i hc
        cases hq
        have he2 : h[σ a]? = some (.inl (t', n, .inl f)) := hE.1 a _ he
        obtain ⟨e1, e2⟩ := hE.set (e := .inl (t', n, .inl (upd f i.toNatClampNeg (nar v)))) he
        refine ⟨_, ?_, e1, e2, by rw [List.length_set]⟩
        simp only [en_si, List.map_cons, en_v, he2, if_pos hc]
        rfl
      · cases hq
    · cases hq
  · cases hq
theorem en_sl_fr (hE : en_Em σ g h) (hq : en_sl st g = some (st', g')) : ∃ h', en_sl (st.map (en_v σ)) h = some (st'.map (en_v σ), h') ∧ en_Em σ g' h' ∧ en_Kp σ g h h' ∧ g'.length = g.length := by
  unfold en_sl at hq
  split at hq
  · rename_i v i a r
    split at hq
    · rename_i t' n f he
      split at hq
      · rename_i hc
        cases hq
        have he2 : h[σ a]? = some (.inl (t', n, .inr (.inl f))) := hE.1 a _ he
        obtain ⟨e1, e2⟩ := hE.set (e := .inl (t', n, .inr (.inl (vp_updL f i.toNatClampNeg v)))) he
        refine ⟨_, ?_, e1, e2, by rw [List.length_set]⟩
        simp only [en_sl, List.map_cons, en_v, he2, if_pos hc]
        rfl
      · cases hq
    · cases hq
  · cases hq
theorem en_sa_fr (hE : en_Em σ g h) (hq : en_sa cr st g = some (st', g')) : ∃ h', en_sa cr (st.map (en_v σ)) h = some (st'.map (en_v σ), h') ∧ en_Em σ g' h' ∧ en_Kp σ g h h' ∧ g'.length = g.length := by
  unfold en_sa at hq
  split at hq
  · rename_i v i a r
    split at hq
    · rename_i t' n f he
      split at hq
      · rename_i ci fs hv
        split at hq
        · rename_i hc
          cases hq
          have he2 : h[σ a]? = some (.inl (t', n, .inr (.inr (.inr (.inr (fun i => (f i).map σ)))))) := hE.1 a _ he
          have hv2 : h[σ v]? = some (.inr (ci, fs.map (en_v σ))) := hE.1 v _ hv
          obtain ⟨e1, e2⟩ := hE.set (e := .inl (t', n, .inr (.inr (.inr (.inr (va_up f i.toNatClampNeg (some v))))))) he
          refine ⟨_, ?_, e1, e2, by rw [List.length_set]⟩
          have hz : en_E σ (.inl (t', n, .inr (.inr (.inr (.inr (va_up f i.toNatClampNeg (some v))))))) = .inl (t', n, .inr (.inr (.inr (.inr (va_up (fun i => (f i).map σ) i.toNatClampNeg (some (σ v))))))) := by
            show (Sum.inl (t', n, .inr (.inr (.inr (.inr (fun q => (va_up f i.toNatClampNeg (some v) q).map σ))))) : va_E) = _
            rw [en_upm]
          rw [hz]
          simp only [en_sa, List.map_cons, en_v, he2, hv2, if_pos hc]
        · cases hq
      · cases hq
    · cases hq
  · cases hq
theorem en_len_fr (hE : en_Em σ g h) (hq : en_len tb st g = some st') : en_len tb (st.map (en_v σ)) h = some (st'.map (en_v σ)) := by
  unfold en_len at hq
  split at hq
  · rename_i a r
    split at hq
    · rename_i t' y he
      split at hq
      · rename_i hc
        cases hq
        have hex : ∃ z : vp_A, en_E σ (.inl (t', y)) = .inl (t', z) ∧ z.1 = y.1 := by
          obtain ⟨n, w⟩ := y
          rcases w with w | w | w | w | w <;> exact ⟨_, rfl, rfl⟩
        obtain ⟨z, hz1, hz2⟩ := hex
        have he2 : h[σ a]? = some (.inl (t', z)) := by rw [← hz1]; exact hE.1 a _ he
        simp only [en_len, List.map_cons, en_v, he2, if_pos hc, hz2]
      · cases hq
    · cases hq
    · split at hq
      · cases hq
      · rename_i hab
        obtain ⟨-, e2, e3⟩ := hE.none hab
        split at hq
        · rename_i n f ht
          cases hq
          simp only [en_len, List.map_cons, en_v, e2, e3, if_neg hab, ht]
        · cases hq
  · cases hq
theorem en_ws_fr (r : List Value) : en_ws (r.map (en_v σ)) = en_ws r := en_wsm σ r
theorem en_cpy_fr (hE : en_Em σ g h) (hq : en_cpy P tb j st g = some (st', g')) : ∃ h', en_cpy P tb j (st.map (en_v σ)) h = some (st'.map (en_v σ), h') ∧ en_Em σ g' h' ∧ en_Kp σ g h h' ∧ g'.length = g.length := by
  unfold en_cpy at hq
  split at hq
  · rename_i n dp a sp b r
    split at hq
    · rename_i n1 f1 he
      split at hq
      · rename_i hc
        have he2 : h[σ a]? = some (.inl (0, n1, .inl f1)) := hE.1 a _ he
        split at hq
        · rename_i n2 f he'
          split at hq
          · rename_i hsp
            cases hq
            have he3 : h[σ b]? = some (.inl (0, n2, .inl f)) := hE.1 b _ he'
            obtain ⟨e1, e2⟩ := hE.set (e := .inl (0, n1, .inl (va_cpy f f1 sp.toNatClampNeg dp.toNatClampNeg n.toNatClampNeg))) he
            refine ⟨_, ?_, e1, e2, by rw [List.length_set]⟩
            simp only [en_cpy, List.map_cons, en_v, he2, he3, en_ws_fr, if_pos hc, if_pos hsp]
            rfl
          · cases hq
        · cases hq
        · split at hq
          · cases hq
          · rename_i hab
            obtain ⟨-, z2, z3⟩ := hE.none hab
            split at hq
            · rename_i n2 f ht
              split at hq
              · rename_i hsp
                cases hq
                obtain ⟨e1, e2⟩ := hE.set (e := .inl (0, n1, .inl (va_cpy f f1 sp.toNatClampNeg dp.toNatClampNeg n.toNatClampNeg))) he
                refine ⟨_, ?_, e1, e2, by rw [List.length_set]⟩
                simp only [en_cpy, List.map_cons, en_v, he2, z2, z3, en_ws_fr, if_pos hc, if_neg hab, ht, if_pos hsp]
                rfl
              · cases hq
            · cases hq
      · cases hq
    · cases hq
  · cases hq
theorem en_obj_fr (hq : en_obj P j st = some st') : en_obj P j (st.map (en_v σ)) = some (st'.map (en_v σ)) := by
  unfold en_obj at hq
  split at hq
  · rename_i a r
    split at hq
    · rename_i hc
      cases hq
      simp only [en_obj, List.map_cons, en_v, en_ws_fr, if_pos hc]
    · cases hq
  · cases hq
theorem en_mth_fr {kd cs ss : Nat} (hq : en_mth P j kd cs ss st = some st') : en_mth P j kd cs ss (st.map (en_v σ)) = some (st'.map (en_v σ)) := by
  unfold en_mth at hq
  split at hq
  · rename_i y z r
    split at hq
    · rename_i hc
      show (if (Nat.ble 1 (en_rm P j).frames && (Nat.ble (en_ws (r.map (en_v σ)) + 13) (en_rm P j).locals && (Nat.ble cs (en_mc P j) && Nat.ble ss (en_ms P j)))) = true then (match kd with
        | 6 => some (Value.int (if z < y then y else z) :: r.map (en_v σ))
        | 7 => some (Value.int (if y < z then y else z) :: r.map (en_v σ))
        | _ => none) else none) = _
      rw [en_ws_fr, if_pos hc]
      split at hq
      · cases hq; rfl
      · cases hq; rfl
      · cases hq
    · cases hq
  · rename_i y z r
    split at hq
    · rename_i hc
      show (if (Nat.ble 1 (en_rm P j).frames && (Nat.ble (en_ws (r.map (en_v σ)) + 15) (en_rm P j).locals && (Nat.ble cs (en_mc P j) && Nat.ble ss (en_ms P j)))) = true then (match kd with
        | 8 => some (Value.long (if y < z then z else y) :: r.map (en_v σ))
        | 9 => some (Value.long (if y < z then y else z) :: r.map (en_v σ))
        | _ => none) else none) = _
      rw [en_ws_fr, if_pos hc]
      split at hq
      · cases hq; rfl
      · cases hq; rfl
      · cases hq
    · cases hq
  · cases hq
end EnFh
