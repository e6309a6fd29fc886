/-! bytes stay bytes, whatever runs -/
section EnBy
variable {P : en_Pg} {tb : en_T} {cr : Nat → Nat}
/-- the bytes of cell 374 -/
def BOk (h : en_H) : Prop := ∀ (n : Nat) (f : Nat → Int32), h[374]? = some (.inl (1, n, .inl f)) → ∀ k : Nat, -128 ≤ (f k).toInt ∧ (f k).toInt < 128
theorem BOk_set {h : en_H} {a : Nat} {v : va_E} (hb : BOk h) (hv : a = 374 → ∀ (m : Nat) (g : Nat → Int32), v = .inl (1, m, .inl g) → ∀ k : Nat, -128 ≤ (g k).toInt ∧ (g k).toInt < 128) : BOk (h.set a v) := fun m g hg k => by
  rw [List.getElem?_set] at hg
  split at hg
  · rename_i ha
    split at hg
    · exact hv ha m g (Option.some.inj hg) k
    · cases hg
  · exact hb m g hg k
theorem BOk_app {h : en_H} {v : va_E} (hb : BOk h) (hv : ∀ (m : Nat) (g : Nat → Int32), v = .inl (1, m, .inl g) → ∀ k : Nat, -128 ≤ (g k).toInt ∧ (g k).toInt < 128) : BOk (h ++ [v]) := fun m g hg k => by
  rw [List.getElem?_append] at hg
  split at hg
  · exact hb m g hg k
  · cases hi : 374 - h.length with
    | zero =>
      rw [hi] at hg
      exact hv m g (Option.some.inj hg) k
    | succ i =>
      rw [hi] at hg
      cases hg
theorem en_up_B {cs ss : Nat} {h : en_H} {o : Option (List Value)} {st' : List Value} {h' : en_H} {cs' ss' : Nat} (H : en_up cs ss h o = some (st', h', cs', ss')) : h' = h := by
  unfold en_up at H
  split at H
  · cases H
    rfl
  · cases H
theorem en_uh_B {cs ss : Nat} {o : Option (List Value × en_H)} {st' : List Value} {h' : en_H} {cs' ss' : Nat} (H : en_uh cs ss o = some (st', h', cs', ss')) : o = some (st', h') := by
  unfold en_uh at H
  split at H
  · cases H
    rfl
  · cases H
theorem en_si_B {t : Nat} {nar : Int32 → Int32} {st st' : List Value} {h h' : en_H} (H : en_si t nar st h = some (st', h')) (hn : t = 1 → ∀ x : Int32, -128 ≤ (nar x).toInt ∧ (nar x).toInt < 128) (hb : BOk h) : BOk h' := by
  unfold en_si at H
  split at H
  · split at H
    · rename_i t' n f hc
      split at H
      · rename_i hcond
        cases H
        simp only [Bool.and_eq_true] at hcond
        have ht := Nat.eq_of_beq_eq_true hcond.1
        refine BOk_set hb (fun ha m g e k => ?_)
        have e1 : t' = 1 := by
          have := congrArg (fun z : Nat × Nat × _ => z.1) (Sum.inl.inj e)
          exact this
        have e2 : upd f _ (nar _) = g := Sum.inl.inj (congrArg (fun z : Nat × Nat × _ => z.2.2) (Sum.inl.inj e))
        rw [← e2]
        unfold upd
        split
        · exact hn (ht.trans e1) _
        · rw [e1, ha] at hc
          exact hb n f hc k
      · cases H
    · cases H
  · cases H
theorem en_pf_B {j x : Nat} {st st' : List Value} {h h' : en_H} (H : en_pf P j x st h = some (st', h')) (hb : BOk h) : BOk h' := by
  unfold en_pf at H
  (repeat' split at H) <;> first | (cases H; exact BOk_set hb (fun _ m g e => by cases e)) | cases H
theorem en_sl_B {st st' : List Value} {h h' : en_H} (H : en_sl st h = some (st', h')) (hb : BOk h) : BOk h' := by
  unfold en_sl at H
  (repeat' split at H) <;> first | (cases H; exact BOk_set hb (fun _ m g e => by cases e)) | cases H
theorem en_sa_B {st st' : List Value} {h h' : en_H} (H : en_sa cr st h = some (st', h')) (hb : BOk h) : BOk h' := by
  unfold en_sa at H
  (repeat' split at H) <;> first | (cases H; exact BOk_set hb (fun _ m g e => by cases e)) | cases H
theorem en_cpy_B {j : Nat} {st st' : List Value} {h h' : en_H} (H : en_cpy P tb j st h = some (st', h')) (hb : BOk h) : BOk h' := by
  unfold en_cpy at H
  (repeat' split at H) <;> first | (cases H; exact BOk_set hb (fun _ m g e => by cases e)) | cases H
theorem en_new_B {j x : Nat} {st st' : List Value} {h h' : en_H} {cs ss cs' ss' : Nat} (H : en_new P j x st h cs ss = some (st', h', cs', ss')) (hb : BOk h) : BOk h' := by
  unfold en_new at H
  (repeat' split at H) <;> first | (cases H; exact BOk_app hb (fun m g e => by cases e)) | cases H
theorem en_naq_B {j x : Nat} {st st' : List Value} {h h' : en_H} {cs ss cs' ss' : Nat} (H : en_naq P j x st h cs ss = some (st', h', cs', ss')) (hb : BOk h) : BOk h' := by
  unfold en_naq at H
  (repeat' split at H) <;> first | (cases H; exact BOk_app hb (fun m g e => by cases e)) | cases H
theorem en_nar_B {j : Nat} {a : ArrayType} {st st' : List Value} {h h' : en_H} {cs ss cs' ss' : Nat} (H : en_nar P j a st h cs ss = some (st', h', cs', ss')) (hb : BOk h) : BOk h' := by
  unfold en_nar at H
  split at H
  · rename_i t ht
    split at H
    · split at H
      · cases H
        refine BOk_app hb (fun m g e k => ?_)
        have e1 : t = 1 := congrArg (fun z : Nat × Nat × _ => z.1) (Sum.inl.inj e)
        subst e1
        have e2 : (fun _ => (0 : Int32)) = g := Sum.inl.inj (congrArg (fun z : Nat × Nat × _ => z.2.2) (Sum.inl.inj e))
        rw [← e2]
        show -128 ≤ (0 : Int32).toInt ∧ (0 : Int32).toInt < 128
        decide
      · cases H
    · cases H
  · cases H
theorem nar_B (x : Int32) : -128 ≤ (vp_nar .byte x).toInt ∧ (vp_nar .byte x).toInt < 128 := by
  have e : vp_nar .byte x = x.toInt8.toInt32 := rfl
  rw [e, ← Int32.ofInt_toInt x, oI_b, w32_toInt]
  have := b8_rg x.toInt
  rw [w32_of (x := b8 x.toInt) (by omega)]
  exact this
set_option maxHeartbeats 8000000 in
theorem en_hp_B {j : Nat} {i : Instr} {len : Nat} {st st' : List Value} {h h' : en_H} {cs ss cs' ss' : Nat} (H : en_hp P tb cr j i len st h cs ss = some (st', h', cs', ss')) (hb : BOk h) : BOk h' := by
  cases i with
  | getfield x =>
    have H : (if len = 3 then en_up cs ss h (en_gf P j x st h) else none) = some (st', h', cs', ss') := H
    split at H
    · rw [en_up_B H]; exact hb
    · cases H
  | putfield x =>
    have H : (if len = 3 then en_uh cs ss (en_pf P j x st h) else none) = some (st', h', cs', ss') := H
    split at H
    · exact en_pf_B (en_uh_B H) hb
    · cases H
  | iaload =>
    have H : (if len = 1 then en_up cs ss h (en_ai tb 0 st h) else none) = some (st', h', cs', ss') := H
    split at H
    · rw [en_up_B H]; exact hb
    · cases H
  | baload =>
    have H : (if len = 1 then (match en_ai tb 1 st h with
      | some r => some (r, h, cs, ss)
      | none => en_up cs ss h (en_ai tb 2 st h)) else none) = some (st', h', cs', ss') := H
    split at H
    · split at H
      · cases H
        exact hb
      · rw [en_up_B H]; exact hb
    · cases H
  | laload =>
    have H : (if len = 1 then en_up cs ss h (en_al st h) else none) = some (st', h', cs', ss') := H
    split at H
    · rw [en_up_B H]; exact hb
    · cases H
  | aaload =>
    have H : (if len = 1 then en_up cs ss h (en_aa st h) else none) = some (st', h', cs', ss') := H
    split at H
    · rw [en_up_B H]; exact hb
    · cases H
  | iastore =>
    have H : (if len = 1 then en_uh cs ss (en_si 0 (fun x => x) st h) else none) = some (st', h', cs', ss') := H
    split at H
    · exact en_si_B (en_uh_B H) (fun y => absurd y (by decide)) hb
    · cases H
  | bastore =>
    have H : (if len = 1 then (match en_si 1 (vp_nar .byte) st h with
      | some (r, h') => some (r, h', cs, ss)
      | none => en_uh cs ss (en_si 2 (vp_nar .boolean) st h)) else none) = some (st', h', cs', ss') := H
    split at H
    · split at H
      · rename_i r1 h1 hs
        cases H
        exact en_si_B hs (fun _ x => nar_B x) hb
      · exact en_si_B (en_uh_B H) (fun y => absurd y (by decide)) hb
    · cases H
  | lastore =>
    have H : (if len = 1 then en_uh cs ss (en_sl st h) else none) = some (st', h', cs', ss') := H
    split at H
    · exact en_sl_B (en_uh_B H) hb
    · cases H
  | aastore =>
    have H : (if len = 1 then en_uh cs ss (en_sa cr st h) else none) = some (st', h', cs', ss') := H
    split at H
    · exact en_sa_B (en_uh_B H) hb
    · cases H
  | arraylength =>
    have H : (if len = 1 then en_up cs ss h (en_len tb st h) else none) = some (st', h', cs', ss') := H
    split at H
    · rw [en_up_B H]; exact hb
    · cases H
  | getstatic x =>
    have H : (if len = 3 then (match en_pG P j x with
      | some k => some (.ref (en_b + k) :: st, h, cs, ss)
      | none => none) else none) = some (st', h', cs', ss') := H
    (repeat' split at H) <;> first | (cases H; exact hb) | cases H
  | ldc x =>
    have H : (if len = 2 then (match en_pK P j x with
      | some (.int v) => some (.int v :: st, h, cs, ss)
      | _ => none) else none) = some (st', h', cs', ss') := H
    (repeat' split at H) <;> first | (cases H; exact hb) | cases H
  | ldc_w x =>
    have H : (if len = 3 then (match en_pK P j x with
      | some (.int v) => some (.int v :: st, h, cs, ss)
      | _ => none) else none) = some (st', h', cs', ss') := H
    (repeat' split at H) <;> first | (cases H; exact hb) | cases H
  | ldc2_w x =>
    have H : (if len = 3 then (match en_pK P j x with
      | some (.long v) => some (.long v :: st, h, cs, ss)
      | _ => none) else none) = some (st', h', cs', ss') := H
    (repeat' split at H) <;> first | (cases H; exact hb) | cases H
  | new x =>
    have H : (if len = 3 then en_new P j x st h cs ss else none) = some (st', h', cs', ss') := H
    split at H
    · exact en_new_B H hb
    · cases H
  | newarray a =>
    have H : (if len = 2 then en_nar P j a st h cs ss else none) = some (st', h', cs', ss') := H
    split at H
    · exact en_nar_B H hb
    · cases H
  | anewarray x =>
    have H : (if len = 3 then en_naq P j x st h cs ss else none) = some (st', h', cs', ss') := H
    split at H
    · exact en_naq_B H hb
    · cases H
  | invokespecial x =>
    have H : (if len = 3 ∧ en_pM P j x = some (4, 0) then en_up cs ss h (en_obj P j st) else none) = some (st', h', cs', ss') := H
    split at H
    · rw [en_up_B H]; exact hb
    · cases H
  | invokestatic x =>
    have H : (if len = 3 then (match en_pM P j x with
      | some (5, 0) => en_uh cs ss (en_cpy P tb j st h)
      | some (kd + 6, 0) => en_up cs ss h (en_mth P j (kd + 6) cs ss st)
      | _ => none) else none) = some (st', h', cs', ss') := H
    split at H
    · split at H
      · exact en_cpy_B (en_uh_B H) hb
      · rw [en_up_B H]; exact hb
      · cases H
    · cases H
  | _ => cases H
theorem en_stp_B {j : Nat} {i : Instr} {len : Nat} {S S' : en_S} (H : en_stp P tb cr j i len S = some S') (hb : BOk S.2.2.2.1) : BOk S'.2.2.2.1 := by
  unfold en_stp at H
  split at H
  · split at H
    · cases H
      exact hb
    · cases H
  · split at H
    · cases H
      exact hb
    · split at H
      · cases H
        exact hb
      · split at H
        · rename_i st' h1 cs' ss' hh
          cases H
          exact en_hp_B hh hb
        · cases H
theorem en_run_B : ∀ (n j : Nat) (S : en_S) (r : Option Value) (h' : en_H), en_run P tb cr n j S = some (r, h') → BOk S.2.2.2.1 → BOk h' := by
  intro n
  induction n with
  | zero => intro j S r h' h; cases h
  | succ n ih =>
    intro j S r h' h hb
    rw [en_run_s] at h
    split at h
    · cases h
    · split at h
      · cases h
        exact hb
      · split at h
        · split at h
          · split at h
            · rename_i r1 h1 hrun1
              split at h
              · exact ih _ _ _ _ h (ih _ _ _ _ hrun1 hb)
              · cases h
            · cases h
          · cases h
        · split at h
          · rename_i S' hstp
            exact ih _ _ _ _ h (en_stp_B hstp hb)
          · cases h
end EnBy
section EnBz
variable {q : Nat × (Nat → Int32)}
theorem EV_B {j pc : Nat} {lv : en_L} {st : List Value} {S S' : ms} {r : Option Value} (h : EV q j pc lv st S r S') (hb : BOk (hp S)) : BOk (hp S') := by
  obtain ⟨n, hn⟩ := h
  exact en_run_B n j _ r _ hn hb
theorem hp_374 (S : ms) : (hp S)[374]? = some (.inl (1, 30000, .inl (fun k : Nat => Int32.ofInt (S.1 374 k)))) := by
  rw [hp_at (by decide), sh_374]
  rfl
theorem BOk_374 {S : ms} (hb : BOk (hp S)) (k : Nat) : -128 ≤ w32 (S.1 374 k) ∧ w32 (S.1 374 k) < 128 := by
  have := hb 30000 _ (hp_374 S) k
  rw [w32_toInt] at this
  exact this
theorem BOk_of {S : ms} (h : ∀ k : Nat, -128 ≤ w32 (S.1 374 k) ∧ w32 (S.1 374 k) < 128) : BOk (hp S) := fun n f hf k => by
  rw [hp_374] at hf
  have e2 : (fun k : Nat => Int32.ofInt (S.1 374 k)) = f := Sum.inl.inj (congrArg (fun z : Nat × Nat × _ => z.2.2) (Sum.inl.inj (Option.some.inj hf)))
  rw [← e2]
  show -128 ≤ (Int32.ofInt (S.1 374 k)).toInt ∧ (Int32.ofInt (S.1 374 k)).toInt < 128
  rw [w32_toInt]
  exact h k
theorem BOk_e {S T : ms} (hb : BOk (hp S)) (e : ∀ k : Int, T.1 374 k = S.1 374 k) : BOk (hp T) := BOk_of (fun k => by rw [e]; exact BOk_374 hb k)
/-- the same memory with bytes as they are -/
def nB (S : ms) : ms := (fun a k => if a = 374 then w32 (S.1 a k) else S.1 a k, S.2)
theorem nB_hp (S : ms) : hp (nB S) = hp S := hp_eq (fun a k => by
  show w32 (if a = 374 then w32 (S.1 a k) else S.1 a k) = w32 (S.1 a k)
  by_cases c : a = 374
  · rw [if_pos c, w32_w32]
  · rw [if_neg c]) (fun _ _ => rfl) rfl
theorem nB_n (S : ms) {a : Nat} (h : a ≠ 374) (k : Int) : (nB S).1 a k = S.1 a k := by
  show (if a = 374 then w32 (S.1 a k) else S.1 a k) = S.1 a k
  rw [if_neg h]
theorem nB_y (S : ms) (k : Int) : (nB S).1 374 k = w32 (S.1 374 k) := by
  show (if 374 = 374 then w32 (S.1 374 k) else S.1 374 k) = w32 (S.1 374 k)
  rw [if_pos rfl]
theorem EV_nB {j pc : Nat} {lv : en_L} {st : List Value} {S S' : ms} {r : Option Value} (h : EV q j pc lv st (nB S) r S') : EV q j pc lv st S r S' := by
  unfold EV at h ⊢
  rw [nB_hp] at h
  exact h
theorem BOk_ini {S : ms} (h : IniP S) : BOk (hp S) := by
  obtain ⟨SB, SD, pB, ⟨-, pD, -⟩, T, ⟨-, p1, -⟩, -, p2, -⟩ := h
  obtain ⟨-, b2⟩ := BlP_same pB
  refine BOk_of (fun k => ?_)
  rw [p2 374 k (by decide) (by decide), p1 374 k (by decide) (by decide), pD 374 k (by decide) (by decide), b2 374 k (by omega) (by decide) (by decide)]
  show -128 ≤ w32 0 ∧ w32 0 < 128
  decide
end EnBz
