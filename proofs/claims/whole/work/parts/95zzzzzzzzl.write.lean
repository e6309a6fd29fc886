/-! write: the card of a TAPE, the reference -/
section WrD
variable {q : Nat × (Nat → Int32)} {g : Nat → Int} {nn e : Nat} {md sz tm : Int} {w : Wt}
theorem wtPuts_app {f h : Nat → Int} {w : Wt} {i : Nat} : ∀ n : Nat, (∀ k : Nat, k < n → h k % 256 = f (i + k) % 256) → wtPuts h n (wtPuts f i w) = wtPuts f (i + n) w
  | 0, _ => rfl
  | n + 1, H => by
    rw [wtPuts_s, wtPuts_app n (fun k hk => H k (by omega)), show i + (n + 1) = i + n + 1 from rfl, wtPuts_s]
    exact wtPut_m (H n (by omega)) _
theorem cW_y {p n : Nat} {f : Nat → Int} {c : Int → Int} {k : Int} (h : (p : Int) ≤ k ∧ k < (p : Int) + n) : cW p n f c k = f (k - p).toNat := if_pos h
theorem cW_n {p n : Nat} {f : Nat → Int} {c : Int → Int} {k : Int} (h : ¬ ((p : Int) ≤ k ∧ k < (p : Int) + n)) : cW p n f c k = c k := if_neg h
/-- a card with blanks for its sum -/
def tpM (g : Nat → Int) (nn : Nat) (md sz tm : Int) (k : Nat) : Int := if 148 ≤ k ∧ k < 156 then 32 else tpA g nn md sz tm k
theorem tpM_n {k : Nat} (h : ¬ (148 ≤ k ∧ k < 156)) : tpM g nn md sz tm k = tpA g nn md sz tm k := if_neg h
theorem tpA_0 (hn : nn ≤ 100) {k : Nat} (h : k < nn) : tpA g nn md sz tm k = g k := by
  unfold tpA
  rw [cW_n (by omega), cW_n (by omega), cW_n (by omega), cW_n (by omega), cW_n (by omega), cW_n (by omega), cW_n (by omega), cW_y (by omega), show ((k : Int) - ((0 : Nat) : Int)).toNat = k by omega]
theorem tpA_z (hn : nn ≤ 100) {k : Nat} (h : (nn ≤ k ∧ k < 100) ∨ k = 107 ∨ k = 115 ∨ k = 123 ∨ k = 135 ∨ (147 ≤ k ∧ k < 156) ∨ (157 ≤ k ∧ k < 257) ∨ 265 ≤ k) : tpA g nn md sz tm k = 0 := by
  unfold tpA
  rw [cW_n (by omega), cW_n (by omega), cW_n (by omega), cW_n (by omega), cW_n (by omega), cW_n (by omega), cW_n (by omega), cW_n (by omega)]
theorem tpA_1 {k : Nat} (h : k < 7) : tpA g nn md sz tm ((100 + k : Nat) : Int) = egF md 7 k := by
  unfold tpA
  rw [cW_n (by omega), cW_n (by omega), cW_n (by omega), cW_n (by omega), cW_n (by omega), cW_n (by omega), cW_y (by omega), show (((100 + k : Nat) : Int) - ((100 : Nat) : Int)).toNat = k by omega]
theorem tpA_2 {k : Nat} (h : k < 7) : tpA g nn md sz tm ((108 + k : Nat) : Int) = egF 0 7 k := by
  unfold tpA
  rw [cW_n (by omega), cW_n (by omega), cW_n (by omega), cW_n (by omega), cW_n (by omega), cW_y (by omega), show (((108 + k : Nat) : Int) - ((108 : Nat) : Int)).toNat = k by omega]
theorem tpA_3 {k : Nat} (h : k < 7) : tpA g nn md sz tm ((116 + k : Nat) : Int) = egF 0 7 k := by
  unfold tpA
  rw [cW_n (by omega), cW_n (by omega), cW_n (by omega), cW_n (by omega), cW_y (by omega), show (((116 + k : Nat) : Int) - ((116 : Nat) : Int)).toNat = k by omega]
theorem tpA_4 {k : Nat} (h : k < 11) : tpA g nn md sz tm ((124 + k : Nat) : Int) = egF sz 11 k := by
  unfold tpA
  rw [cW_n (by omega), cW_n (by omega), cW_n (by omega), cW_y (by omega), show (((124 + k : Nat) : Int) - ((124 : Nat) : Int)).toNat = k by omega]
theorem tpA_5 {k : Nat} (h : k < 11) : tpA g nn md sz tm ((136 + k : Nat) : Int) = egF tm 11 k := by
  unfold tpA
  rw [cW_n (by omega), cW_n (by omega), cW_y (by omega), show (((136 + k : Nat) : Int) - ((136 : Nat) : Int)).toNat = k by omega]
theorem tpA_6 : tpA g nn md sz tm ((156 : Nat) : Int) = 48 := by
  unfold tpA
  rw [cW_n (by omega), cW_y (by omega)]
theorem tpA_7 {k : Nat} (h : k < 8) : tpA g nn md sz tm ((257 + k : Nat) : Int) = sS 7 k := by
  unfold tpA
  rw [cW_y (by omega), show (((257 + k : Nat) : Int) - ((257 : Nat) : Int)).toNat = k by omega]
/-- pieces of what is written: the reference -/
theorem md_segF {F : Nat → Int} {v : Int} {i m : Nat} {B : ms} (hw : 0 ≤ w.1 ∧ w.1 ≤ 20000) (hi : i + m ≤ 30000) (H : ∀ k : Nat, k < m → v % 256 = F (i + k) % 256) (h : MWt B (wtPuts F i w)) : ∃ B', EX XW B B' ∧ MWt B' (wtPuts F (i + m) w) ∧ ∀ x : Int, x = w.1 + ((i + m : Nat) : Int) → EV q 385 0 [some (.ref 367), some (vI x), some (vI v)] [] B none B' := by
  obtain ⟨B', k1, k2, k3⟩ := md_fillT (q := q) (v := v) (w := wtPuts F i w) (n := m) (by rw [wtPuts_1]; omega) (by omega) m 0 B (by omega) h
  rw [wtPuts_app m H] at k2
  refine ⟨B', k1, k2, fun x hx => ?_⟩
  rw [wtPuts_1, show w.1 + (i : Int) + (m : Int) = x by omega] at k3
  exact k3
theorem md_segP {F : Nat → Int} {v : Int} {i : Nat} {B : ms} (hw : 0 ≤ w.1 ∧ w.1 ≤ 20000) (hi : i ≤ 30000) (H : v % 256 = F i % 256) (h : MWt B (wtPuts F i w)) : ∃ B', EX XW B B' ∧ MWt B' (wtPuts F (i + 1) w) ∧ EV q 282 0 [some (.ref 367), some (vI v)] [] B none B' := by
  obtain ⟨B', k1, k2, k3⟩ := mw_put (q := q) v (by rw [wtPuts_1]; omega) h
  refine ⟨B', k2, ?_, k1⟩
  rw [wtPuts_s, ← wtPut_m H]
  exact k3
theorem md_segG {F : Nat → Int} {v : Int} {i n : Nat} {B : ms} (hw : 0 ≤ w.1 ∧ w.1 ≤ 20000) (hi : i ≤ 30000) (hv : 0 ≤ v ∧ v < 4611686018427387904) (hn : 1 ≤ n ∧ n ≤ 11) (H : ∀ k : Nat, k < n → egF v n k % 256 = F (i + k) % 256) (h : MWt B (wtPuts F i w)) : ∃ B', EX XW B B' ∧ MWt B' (wtPuts F (i + n) w) ∧ EV q 386 0 [some (.ref 367), some (vL v), none, some (vI 8), some (vI n), none, none, none] [] B none B' := by
  obtain ⟨B', k1, k2, -, k3⟩ := md_fig (q := q) (v := v) (n := n) (w := wtPuts F i w) hv hn (by rw [wtPuts_1]; omega) h
  rw [wtPuts_app n H] at k2
  exact ⟨B', k1, k2, k3⟩
/-- the sum of a card -/
theorem md_tsm {B : ms} {x1 x2 : Int} {c : Int → Int} (hx : 0 ≤ x2 ∧ x2 ≤ 20000) (hc : ∀ k : Nat, k < 512 → B.1 374 (x2 + k) % 256 = if 148 ≤ k ∧ k < 156 then 32 else c k) {R : Option Value} {S' : ms} : ∀ (r i : Nat), i + r = 512 → EV q 383 189 [some (.ref 367), some (vI x1), some (vI x2), some (vI (tsF c 512)), some (vI ((512 : Nat) : Int))] [] B R S' → EV q 383 189 [some (.ref 367), some (vI x1), some (vI x2), some (vI (tsF c i)), some (vI i)] [] B R S' := by
  intro r
  induction r with
  | zero =>
    intro i hi k
    have e : i = 512 := by omega
    subst e
    exact k
  | succ r ih =>
    intro i hi k
    have g := ih (i + 1) (by omega) k
    rw [tsF_s, show ((i + 1 : Nat) : Int) = (i : Int) + 1 by omega] at g
    refine vc_MD_tapeRow_189 _ _ _ _ ?_
    rw [show w32 (i : Int) = i from w32_of (by omega), w32_of (x := x2 + (i : Int)) (by omega), hc i (by omega)]
    exact cNo (by omega) ⟨by omega, g⟩
end WrD
