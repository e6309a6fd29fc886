/-! a reference out of an array whose place is a variable -/
theorem mv_aaV {tb : en_T} {j pc cs ss : Nat} {lv : en_L} {st : List Value} {h' : en_H} {r : Option Value} {S : ms} {t a n q : Nat} {fs : List (Nat × Nat)} {i : Int} (hI : en_pI pg_P j pc = some (.aaload, 1)) (hs : SH a = (t, n, fs)) (ht : t = 4 ∨ t = 5) (hb : 0 ≤ w32 i ∧ w32 i < n) (hq : sh_r (SH a).2.2 (w32 i).toNat = some q) (kk : en_Ev pg_P tb pg_cr j (pc + 1, lv, .ref q :: st, hp S, cs, ss) r h') : en_Ev pg_P tb pg_cr j (pc, lv, vI i :: .ref a :: st, hp S, cs, ss) r h' :=
  mv_aal hI hs ht hb (by rw [hs] at hq; exact hq) kk
