/-! THE STEPS: each call keeps what holds between the calls -/
section KpG
variable {q : Nat × (Nat → Int32)} {S : ms} {a b d : Int} {i : Nat}
theorem hs_ix (h : Hs S a b) : 0 ≤ a * S.1 173 3 + b ∧ a * S.1 173 3 + b < (S.1 173 6 + S.1 173 2) * S.1 173 3 := by
  obtain ⟨h1, h2, h3, h4⟩ := h
  have k1 : 0 ≤ a * S.1 173 3 := Int.mul_nonneg h1 (by omega)
  have k2 : (a + 1) * S.1 173 3 ≤ (S.1 173 6 + S.1 173 2) * S.1 173 3 := Int.mul_le_mul_of_nonneg_right (by omega) (by omega)
  rw [Int.add_mul, Int.one_mul] at k2
  omega
theorem st_0 (hi : i < 1000) (ha : -2147483648 ≤ a ∧ a < 2147483648) (hb : -2147483648 ≤ b ∧ b < 2147483648) (hd : -2147483648 ≤ d ∧ d < 2147483648) (hK : KK i S) : op_0 q a b d S (KK (i + 1)) := by
  obtain ⟨h, hB⟩ := hK
  obtain ⟨h1, h2, h3, h4, ⟨sh, si, e3, e4, e1, e2⟩, h6, h7, h8, h9, h10⟩ := id h
  obtain ⟨z, S1, z', S2, k1, k2, k3, y⟩ := op0_ok (q := q) (S := S) (a := a) (b := b) (d := d) hd h1
  have kx : KX (i + 1) S2 := by
    rcases y with y | ⟨y1, y2, y3, y4⟩
    · rw [y]; exact KX_0 h
    · rw [y4]; exact kx_0 h y1 y2 y3 _
  exact ⟨z, S1, z', S2, k1, k2, k3, kx, EV_B k2 (EV_B k1 hB)⟩
theorem st_1 (hi : i < 1000) (ha : -2147483648 ≤ a ∧ a < 2147483648) (hb : -2147483648 ≤ b ∧ b < 2147483648) (hd : -2147483648 ≤ d ∧ d < 2147483648) (hK : KK i S) : op_1 q a b d S (KK (i + 1)) := by
  obtain ⟨h, hB⟩ := hK
  obtain ⟨h1, h2, h3, h4, ⟨sh, si, e3, e4, e1, e2⟩, h6, h7, h8, h9, h10⟩ := id h
  obtain ⟨z, S1, z', S2, k1, k2, k3, y⟩ := op1_ok (q := q) (S := S) (a := a) (b := b) (d := d) ha hb h1
  have kx : KX (i + 1) S2 := by
    rcases y with y | ⟨y1, y2, y3, y4, y5⟩
    · rw [y]; exact KX_0 h
    · rw [y5]; exact kx_1 h ⟨y1, y2⟩ y3 y4
  exact ⟨z, S1, z', S2, k1, k2, k3, kx, EV_B k2 (EV_B k1 hB)⟩
theorem st_2 (hi : i < 1000) (ha : -2147483648 ≤ a ∧ a < 2147483648) (hb : -2147483648 ≤ b ∧ b < 2147483648) (hd : -2147483648 ≤ d ∧ d < 2147483648) (hK : KK i S) : op_2 q a b d S (KK (i + 1)) := by
  obtain ⟨h, hB⟩ := hK
  obtain ⟨h1, h2, h3, h4, ⟨sh, si, e3, e4, e1, e2⟩, h6, h7, h8, h9, h10⟩ := id h
  obtain ⟨z, S1, z', S2, k1, k2, k3, y⟩ := op2_ok (q := q) (S := S) (a := a) (b := b) (d := d) h1
  have kx : KX (i + 1) S2 := by
    rcases y with y | ⟨y1, y2, y3⟩
    · rw [y]; exact KX_0 h
    · rw [y3]; exact kx_2 h ha y1 y2
  exact ⟨z, S1, z', S2, k1, k2, k3, kx, EV_B k2 (EV_B k1 hB)⟩
theorem st_3 (hi : i < 1000) (ha : -2147483648 ≤ a ∧ a < 2147483648) (hb : -2147483648 ≤ b ∧ b < 2147483648) (hd : -2147483648 ≤ d ∧ d < 2147483648) (hK : KK i S) : op_3 q a b d S (KK (i + 1)) := by
  obtain ⟨h, hB⟩ := hK
  obtain ⟨h1, h2, h3, h4, ⟨sh, si, e3, e4, e1, e2⟩, h6, h7, h8, h9, h10⟩ := id h
  obtain ⟨z, S1, z', S2, k1, k2, k3, y⟩ := op3_ok (q := q) (S := S) (a := a) (b := b) (d := d) h1 hb
  have kx : KX (i + 1) S2 := by
    rcases y with y | ⟨y1, y2, y3, y4, y5⟩
    · rw [y]; exact KX_0 h
    · rw [y5]; exact kx_3 h y1 y2 y3 y4
  exact ⟨z, S1, z', S2, k1, k2, k3, kx, EV_B k2 (EV_B k1 hB)⟩
theorem st_4 (hi : i < 1000) (ha : -2147483648 ≤ a ∧ a < 2147483648) (hb : -2147483648 ≤ b ∧ b < 2147483648) (hd : -2147483648 ≤ d ∧ d < 2147483648) (hK : KK i S) : op_4 q a b d S (KK (i + 1)) := by
  obtain ⟨h, hB⟩ := hK
  obtain ⟨h1, h2, h3, h4, ⟨sh, si, e3, e4, e1, e2⟩, h6, h7, h8, h9, h10⟩ := id h
  obtain ⟨z, S1, z', S2, k1, k2, k3, y⟩ := op4_ok (q := q) (S := S) (a := a) (b := b) (d := d) h1
  exact ⟨z, S1, z', S2, k1, k2, k3, by rw [y]; exact KX_0 h, EV_B k2 (EV_B k1 hB)⟩
theorem st_5 (hi : i < 1000) (ha : -2147483648 ≤ a ∧ a < 2147483648) (hb : -2147483648 ≤ b ∧ b < 2147483648) (hd : -2147483648 ≤ d ∧ d < 2147483648) (hK : KK i S) : op_5 q a b d S (KK (i + 1)) := by
  obtain ⟨h, hB⟩ := hK
  obtain ⟨h1, h2, h3, h4, ⟨sh, si, e3, e4, e1, e2⟩, h6, h7, h8, h9, h10⟩ := id h
  obtain ⟨z, S1, z', S2, k1, k2, k3, y⟩ := op5_ok (q := q) (S := S) (a := a) (b := b) (d := d) h1 h10.1
  exact ⟨z, S1, z', S2, k1, k2, k3, by rw [y]; exact KX_0 h, EV_B k2 (EV_B k1 hB)⟩
theorem st_6 (hi : i < 1000) (ha : -2147483648 ≤ a ∧ a < 2147483648) (hb : -2147483648 ≤ b ∧ b < 2147483648) (hd : -2147483648 ≤ d ∧ d < 2147483648) (hK : KK i S) : op_6 q a b d S (KK (i + 1)) := by
  obtain ⟨h, hB⟩ := hK
  obtain ⟨h1, h2, h3, h4, ⟨sh, si, e3, e4, e1, e2⟩, h6, h7, h8, h9, h10⟩ := id h
  obtain ⟨z, S1, z', S2, k1, k2, k3, y⟩ := op6_ok (q := q) (S := S) (a := a) (b := b) (d := d) ha h2
  exact ⟨z, S1, z', S2, k1, k2, k3, by rw [y]; exact KX_0 h, EV_B k2 (EV_B k1 hB)⟩
theorem st_7 (hi : i < 1000) (ha : -2147483648 ≤ a ∧ a < 2147483648) (hb : -2147483648 ≤ b ∧ b < 2147483648) (hd : -2147483648 ≤ d ∧ d < 2147483648) (hK : KK i S) : op_7 q a b d S (KK (i + 1)) := by
  obtain ⟨h, hB⟩ := hK
  obtain ⟨h1, h2, h3, h4, ⟨sh, si, e3, e4, e1, e2⟩, h6, h7, h8, h9, h10⟩ := id h
  obtain ⟨z, S1, z', S2, k1, k2, k3, y⟩ := op7_ok (q := q) (S := S) (a := a) (b := b) (d := d) ha hb h2
  exact ⟨z, S1, z', S2, k1, k2, k3, by rw [y]; exact KX_0 h, EV_B k2 (EV_B k1 hB)⟩
theorem st_8 (hi : i < 1000) (ha : -2147483648 ≤ a ∧ a < 2147483648) (hb : -2147483648 ≤ b ∧ b < 2147483648) (hd : -2147483648 ≤ d ∧ d < 2147483648) (hK : KK i S) : op_8 q a b d S (KK (i + 1)) := by
  obtain ⟨h, hB⟩ := hK
  obtain ⟨h1, h2, h3, h4, ⟨sh, si, e3, e4, e1, e2⟩, h6, h7, h8, h9, h10⟩ := id h
  obtain ⟨z, S1, z', S2, k1, k2, k3, y⟩ := op8_ok (q := q) (S := S) (a := a) (b := b) (d := d) ha h2
  have kx : KX (i + 1) S2 := by
    rcases y with y | ⟨y1, y2, y3⟩
    · rw [y]; exact KX_0 h
    · rw [y3]; exact kx_8 h y1 y2
  exact ⟨z, S1, z', S2, k1, k2, k3, kx, EV_B k2 (EV_B k1 hB)⟩
theorem st_9 (hi : i < 1000) (ha : -2147483648 ≤ a ∧ a < 2147483648) (hb : -2147483648 ≤ b ∧ b < 2147483648) (hd : -2147483648 ≤ d ∧ d < 2147483648) (hK : KK i S) : op_9 q a b d S (KK (i + 1)) := by
  obtain ⟨h, hB⟩ := hK
  obtain ⟨h1, h2, h3, h4, ⟨sh, si, e3, e4, e1, e2⟩, h6, h7, h8, h9, h10⟩ := id h
  obtain ⟨z, S1, z', S2, k1, k2, k3, y⟩ := op9_ok (q := q) (S := S) (a := a) (b := b) (d := d) ha h2
  have kx : KX (i + 1) S2 := by
    rcases y with y | ⟨y1, y2⟩
    · rw [y]; exact KX_0 h
    · rw [y2]; exact kx_9 h y1
  exact ⟨z, S1, z', S2, k1, k2, k3, kx, EV_B k2 (EV_B k1 hB)⟩
theorem st_10 (hi : i < 1000) (ha : -2147483648 ≤ a ∧ a < 2147483648) (hb : -2147483648 ≤ b ∧ b < 2147483648) (hd : -2147483648 ≤ d ∧ d < 2147483648) (hK : KK i S) : op_10 q a b d S (KK (i + 1)) := by
  obtain ⟨h, hB⟩ := hK
  obtain ⟨h1, h2, h3, h4, ⟨sh, si, e3, e4, e1, e2⟩, h6, h7, h8, h9, h10⟩ := id h
  obtain ⟨z, S1, z', S2, k1, k2, k3, y⟩ := op10_ok (q := q) (S := S) (a := a) (b := b) (d := d) ha hb h2
  exact ⟨z, S1, z', S2, k1, k2, k3, by rw [y]; exact KX_0 h, EV_B k2 (EV_B k1 hB)⟩
theorem st_11 (hi : i < 1000) (ha : -2147483648 ≤ a ∧ a < 2147483648) (hb : -2147483648 ≤ b ∧ b < 2147483648) (hd : -2147483648 ≤ d ∧ d < 2147483648) (hK : KK i S) : op_11 q a b d S (KK (i + 1)) := by
  obtain ⟨h, hB⟩ := hK
  obtain ⟨h1, h2, h3, h4, ⟨sh, si, e3, e4, e1, e2⟩, h6, h7, h8, h9, h10⟩ := id h
  obtain ⟨z, S1, z', S2, k1, k2, k3, y⟩ := op11_ok (q := q) (S := S) (a := a) (b := b) (d := d) ha hb h1 h2 h10.1 h9 h10.2.2.1 h3
  have kx : KX (i + 1) S2 := by
    rcases y with y | y1
    · rw [y]; exact KX_0 h
    · exact kx_11 h y1
  exact ⟨z, S1, z', S2, k1, k2, k3, kx, EV_B k2 (EV_B k1 hB)⟩
theorem st_12 (hi : i < 1000) (ha : -2147483648 ≤ a ∧ a < 2147483648) (hb : -2147483648 ≤ b ∧ b < 2147483648) (hd : -2147483648 ≤ d ∧ d < 2147483648) (hK : KK i S) : op_12 q a b d S (KK (i + 1)) := by
  obtain ⟨h, hB⟩ := hK
  obtain ⟨h1, h2, h3, h4, ⟨sh, si, e3, e4, e1, e2⟩, h6, h7, h8, h9, h10⟩ := id h
  obtain ⟨z, S1, z', S2, k1, k2, k3, y⟩ := op12_ok (q := q) (S := S) (a := a) (b := b) (d := d) ha h1 h2 h10.1 h9 h10.2.2.2.1 h10.2.2.2.2
  have kx : KX (i + 1) S2 := by
    rcases y with y | y1
    · rw [y]; exact KX_0 h
    · exact kx_12 h y1
  exact ⟨z, S1, z', S2, k1, k2, k3, kx, EV_B k2 (EV_B k1 hB)⟩
theorem st_13 (hi : i < 1000) (ha : -2147483648 ≤ a ∧ a < 2147483648) (hb : -2147483648 ≤ b ∧ b < 2147483648) (hd : -2147483648 ≤ d ∧ d < 2147483648) (hK : KK i S) : op_13 q a b d S (KK (i + 1)) := by
  obtain ⟨h, hB⟩ := hK
  obtain ⟨h1, h2, h3, h4, ⟨sh, si, e3, e4, e1, e2⟩, h6, h7, h8, h9, h10⟩ := id h
  obtain ⟨z, S1, z', S2, k1, k2, k3, y⟩ := op13_ok (q := q) (S := S) (a := a) (b := b) (d := d) h8
  exact ⟨z, S1, z', S2, k1, k2, k3, by rw [y]; exact KX_0 h, EV_B k2 (EV_B k1 hB)⟩
theorem st_14 (hi : i < 1000) (ha : -2147483648 ≤ a ∧ a < 2147483648) (hb : -2147483648 ≤ b ∧ b < 2147483648) (hd : -2147483648 ≤ d ∧ d < 2147483648) (hK : KK i S) : op_14 q a b d S (KK (i + 1)) := by
  obtain ⟨h, hB⟩ := hK
  obtain ⟨h1, h2, h3, h4, ⟨sh, si, e3, e4, e1, e2⟩, h6, h7, h8, h9, h10⟩ := id h
  obtain ⟨z, S1, z', S2, k1, k2, k3, y⟩ := op14_ok (q := q) (S := S) (a := a) (b := b) (d := d) ha h3.1
  exact ⟨z, S1, z', S2, k1, k2, k3, by rw [y]; exact KX_0 h, EV_B k2 (EV_B k1 hB)⟩
theorem st_15 (hi : i < 1000) (ha : -2147483648 ≤ a ∧ a < 2147483648) (hb : -2147483648 ≤ b ∧ b < 2147483648) (hd : -2147483648 ≤ d ∧ d < 2147483648) (hK : KK i S) : op_15 q a b d S (KK (i + 1)) := by
  obtain ⟨h, hB⟩ := hK
  obtain ⟨h1, h2, h3, h4, ⟨sh, si, e3, e4, e1, e2⟩, h6, h7, h8, h9, h10⟩ := id h
  obtain ⟨z, S1, z', S2, k1, k2, k3, y⟩ := op15_ok (q := q) (S := S) (a := a) (b := b) (d := d) h3.2
  exact ⟨z, S1, z', S2, k1, k2, k3, by rw [y]; exact KX_0 h, EV_B k2 (EV_B k1 hB)⟩
theorem st_16 (hi : i < 1000) (ha : -2147483648 ≤ a ∧ a < 2147483648) (hb : -2147483648 ≤ b ∧ b < 2147483648) (hd : -2147483648 ≤ d ∧ d < 2147483648) (hK : KK i S) : op_16 q a b d S (KK (i + 1)) := by
  obtain ⟨h, hB⟩ := hK
  obtain ⟨h1, h2, h3, h4, ⟨sh, si, e3, e4, e1, e2⟩, h6, h7, h8, h9, h10⟩ := id h
  obtain ⟨z, S1, z', S2, k1, k2, k3, y⟩ := op16_ok (q := q) (S := S) (a := a) (b := b) (d := d) hd h4
  have kx : KX (i + 1) S2 := by
    rcases y with y | ⟨-, y⟩ | ⟨v, y1, y2, y3, y4, y5⟩
    · rw [y]; exact KX_0 h
    · rw [y]; exact kx_16a h
    · rw [y5]; exact kx_16b h y1 y2 y3 y4
  exact ⟨z, S1, z', S2, k1, k2, k3, kx, EV_B k2 (EV_B k1 hB)⟩
theorem st_17 (hi : i < 1000) (ha : -2147483648 ≤ a ∧ a < 2147483648) (hb : -2147483648 ≤ b ∧ b < 2147483648) (hd : -2147483648 ≤ d ∧ d < 2147483648) (hK : KK i S) : op_17 q a b d S (KK (i + 1)) := by
  obtain ⟨h, hB⟩ := hK
  obtain ⟨h1, h2, h3, h4, ⟨sh, si, e3, e4, e1, e2⟩, h6, h7, h8, h9, h10⟩ := id h
  obtain ⟨z, S1, z', S2, k1, k2, k3, y⟩ := op17_ok (q := q) (S := S) (a := a) (b := b) (d := d) ha hb hd e1 h2 h4
  have kx : KX (i + 1) S2 := by
    rcases y with y | ⟨y1, y2, y3, y4, y5, y6, y7, y8⟩
    · rw [y]; exact KX_0 h
    · rw [y8]; exact kx_17 h e1 y1 ⟨y2, y3⟩ ⟨y4, hd.2⟩ y5 y6 y7
  exact ⟨z, S1, z', S2, k1, k2, k3, kx, EV_B k2 (EV_B k1 hB)⟩
theorem st_18 (hi : i < 1000) (ha : -2147483648 ≤ a ∧ a < 2147483648) (hb : -2147483648 ≤ b ∧ b < 2147483648) (hd : -2147483648 ≤ d ∧ d < 2147483648) (hK : KK i S) : op_18 q a b d S (KK (i + 1)) := by
  obtain ⟨h, hB⟩ := hK
  obtain ⟨h1, h2, h3, h4, ⟨sh, si, e3, e4, e1, e2⟩, h6, h7, h8, h9, h10⟩ := id h
  obtain ⟨z, S1, z', S2, k1, k2, k3, y⟩ := op18_ok (q := q) (S := S) (a := a) (b := b) (d := d) ha hb h1 h2 h10.1 h9 h10.2.2.1 e1 e2 hB
  have kx : KX (i + 1) S2 := by
    rcases y with y | y1
    · rw [y]; exact KX_0 h
    · exact kx_18 h e1.2.1 y1
  exact ⟨z, S1, z', S2, k1, k2, k3, kx, EV_B k2 (EV_B k1 hB)⟩
theorem st_19 (hi : i < 1000) (ha : -2147483648 ≤ a ∧ a < 2147483648) (hb : -2147483648 ≤ b ∧ b < 2147483648) (hd : -2147483648 ≤ d ∧ d < 2147483648) (hK : KK i S) : op_19 q a b d S (KK (i + 1)) := by
  obtain ⟨h, hB⟩ := hK
  obtain ⟨h1, h2, h3, h4, ⟨sh, si, e3, e4, e1, e2⟩, h6, h7, h8, h9, h10⟩ := id h
  obtain ⟨z, S1, z', S2, k1, k2, k3, y⟩ := op19_ok (q := q) (S := S) (a := a) (b := b) (d := d) ha h1 h10.1 h9 h10.2.2.2.1 h10.2.2.2.2 e3 e1.1 e4
  have kx : KX (i + 1) S2 := by
    rcases y with y | y1
    · rw [y]; exact KX_0 h
    · exact kx_19 h e3 e4 e1 e2 y1
  exact ⟨z, S1, z', S2, k1, k2, k3, kx, EV_B k2 (EV_B k1 hB)⟩
theorem st_20 (hi : i < 1000) (ha : -2147483648 ≤ a ∧ a < 2147483648) (hb : -2147483648 ≤ b ∧ b < 2147483648) (hd : -2147483648 ≤ d ∧ d < 2147483648) (hK : KK i S) : op_20 q a b d S (KK (i + 1)) := by
  obtain ⟨h, hB⟩ := hK
  obtain ⟨h1, h2, h3, h4, ⟨sh, si, e3, e4, e1, e2⟩, h6, h7, h8, h9, h10⟩ := id h
  obtain ⟨z, S1, z', S2, k1, k2, k3, y⟩ := op20_ok (q := q) (S := S) (a := a) (b := b) (d := d) ha hb e1
  exact ⟨z, S1, z', S2, k1, k2, k3, by rw [y]; exact KX_0 h, EV_B k2 (EV_B k1 hB)⟩
theorem st_21 (hi : i < 1000) (ha : -2147483648 ≤ a ∧ a < 2147483648) (hb : -2147483648 ≤ b ∧ b < 2147483648) (hd : -2147483648 ≤ d ∧ d < 2147483648) (hK : KK i S) : op_21 q a b d S (KK (i + 1)) := by
  obtain ⟨h, hB⟩ := hK
  obtain ⟨h1, h2, h3, h4, ⟨sh, si, e3, e4, e1, e2⟩, h6, h7, h8, h9, h10⟩ := id h
  obtain ⟨z, S1, z', S2, k1, k2, k3, y⟩ := op21_ok (q := q) (S := S) (a := a) (b := b) (d := d) ha hb e1
  exact ⟨z, S1, z', S2, k1, k2, k3, by rw [y]; exact KX_0 h, EV_B k2 (EV_B k1 hB)⟩
theorem st_22 (hi : i < 1000) (ha : -2147483648 ≤ a ∧ a < 2147483648) (hb : -2147483648 ≤ b ∧ b < 2147483648) (hd : -2147483648 ≤ d ∧ d < 2147483648) (hK : KK i S) : op_22 q a b d S (KK (i + 1)) := by
  obtain ⟨h, hB⟩ := hK
  obtain ⟨h1, h2, h3, h4, ⟨sh, si, e3, e4, e1, e2⟩, h6, h7, h8, h9, h10⟩ := id h
  obtain ⟨z, S1, z', S2, k1, k2, k3, y⟩ := op22_ok (q := q) (S := S) (a := a) (b := b) (d := d) ha e1 h2
  have kx : KX (i + 1) S2 := by
    rcases y with y | ⟨f, y1, y2, y3, y4, y5⟩
    · rw [y]; exact KX_0 h
    · rw [y5]; exact kx_22 h e1 y1 y2 y3 y4
  exact ⟨z, S1, z', S2, k1, k2, k3, kx, EV_B k2 (EV_B k1 hB)⟩
theorem st_23 (hi : i < 1000) (ha : -2147483648 ≤ a ∧ a < 2147483648) (hb : -2147483648 ≤ b ∧ b < 2147483648) (hd : -2147483648 ≤ d ∧ d < 2147483648) (hK : KK i S) : op_23 q a b d S (KK (i + 1)) := by
  obtain ⟨h, hB⟩ := hK
  obtain ⟨h1, h2, h3, h4, ⟨sh, si, e3, e4, e1, e2⟩, h6, h7, h8, h9, h10⟩ := id h
  obtain ⟨z, S1, z', S2, k1, k2, k3, y⟩ := op23_ok (q := q) (S := S) (a := a) (b := b) (d := d) e1.1 (isSh_is e1.2.1) (by omega) e1.2.2.2.1
  exact ⟨z, S1, z', S2, k1, k2, k3, by rw [y]; exact kx_23 h e1.1, EV_B k2 (EV_B k1 hB)⟩
theorem st_24 (hi : i < 1000) (ha : -2147483648 ≤ a ∧ a < 2147483648) (hb : -2147483648 ≤ b ∧ b < 2147483648) (hd : -2147483648 ≤ d ∧ d < 2147483648) (hK : KK i S) : op_24 q a b d S (KK (i + 1)) := by
  obtain ⟨h, hB⟩ := hK
  obtain ⟨h1, h2, h3, h4, ⟨sh, si, e3, e4, e1, e2⟩, h6, h7, h8, h9, h10⟩ := id h
  obtain ⟨z, S1, z', S2, k1, k2, k3, y⟩ := op24_ok (q := q) (S := S) (a := a) (b := b) (d := d) ha hb h2 h10.1
  have kx : KX (i + 1) S2 := by
    rcases y with y | y1
    · rw [y]; exact KX_0 h
    · exact kx_24 h y1
  exact ⟨z, S1, z', S2, k1, k2, k3, kx, EV_B k2 (EV_B k1 hB)⟩
theorem st_25 (hi : i < 1000) (ha : -2147483648 ≤ a ∧ a < 2147483648) (hb : -2147483648 ≤ b ∧ b < 2147483648) (hd : -2147483648 ≤ d ∧ d < 2147483648) (hK : KK i S) : op_25 q a b d S (KK (i + 1)) := by
  obtain ⟨h, hB⟩ := hK
  obtain ⟨h1, h2, h3, h4, ⟨sh, si, e3, e4, e1, e2⟩, h6, h7, h8, h9, h10⟩ := id h
  obtain ⟨z, S1, z', S2, k1, k2, k3, y⟩ := op25_ok (q := q) (S := S) (a := a) (b := b) (d := d) ha h1 h2 h10.1
  have kx : KX (i + 1) S2 := by
    rcases y with y | y1
    · rw [y]; exact KX_0 h
    · exact kx_25 h y1
  exact ⟨z, S1, z', S2, k1, k2, k3, kx, EV_B k2 (EV_B k1 hB)⟩
theorem st_26 (hi : i < 1000) (ha : -2147483648 ≤ a ∧ a < 2147483648) (hb : -2147483648 ≤ b ∧ b < 2147483648) (hd : -2147483648 ≤ d ∧ d < 2147483648) (hK : KK i S) : op_26 q a b d S (KK (i + 1)) := by
  obtain ⟨h, hB⟩ := hK
  obtain ⟨h1, h2, h3, h4, ⟨sh, si, e3, e4, e1, e2⟩, h6, h7, h8, h9, h10⟩ := id h
  obtain ⟨z, S1, z', S2, k1, k2, k3, y⟩ := op26_ok (q := q) (S := S) (a := a) (b := b) (d := d) ha hb h1 h10.1 h10.2.1
  exact ⟨z, S1, z', S2, k1, k2, k3, kx_26 h y, EV_B k2 (EV_B k1 hB)⟩
theorem st_27 (hi : i < 1000) (ha : -2147483648 ≤ a ∧ a < 2147483648) (hb : -2147483648 ≤ b ∧ b < 2147483648) (hd : -2147483648 ≤ d ∧ d < 2147483648) (hK : KK i S) : op_27 q a b d S (KK (i + 1)) := by
  obtain ⟨h, hB⟩ := hK
  obtain ⟨h1, h2, h3, h4, ⟨sh, si, e3, e4, e1, e2⟩, h6, h7, h8, h9, h10⟩ := id h
  obtain ⟨z, S1, z', S2, k1, k2, k3, y⟩ := op27_ok (q := q) (S := S) (a := a) (b := b) (d := d) ha hb h6.1
  exact ⟨z, S1, z', S2, k1, k2, k3, by rw [y]; exact KX_0 h, EV_B k2 (EV_B k1 hB)⟩
theorem st_28 (hi : i < 1000) (ha : -2147483648 ≤ a ∧ a < 2147483648) (hb : -2147483648 ≤ b ∧ b < 2147483648) (hd : -2147483648 ≤ d ∧ d < 2147483648) (hK : KK i S) : op_28 q a b d S (KK (i + 1)) := by
  obtain ⟨h, hB⟩ := hK
  obtain ⟨h1, h2, h3, h4, ⟨sh, si, e3, e4, e1, e2⟩, h6, h7, h8, h9, h10⟩ := id h
  obtain ⟨z, S1, z', S2, k1, k2, k3, y⟩ := op28_ok (q := q) (S := S) (a := a) (b := b) (d := d) ha h6.1
  have kx : KX (i + 1) S2 := by
    rcases y with y | ⟨y1, y2, y3⟩
    · rw [y]; exact KX_0 h
    · rw [y3]; exact kx_28 h
  exact ⟨z, S1, z', S2, k1, k2, k3, kx, EV_B k2 (EV_B k1 hB)⟩
theorem st_29 (hi : i < 1000) (ha : -2147483648 ≤ a ∧ a < 2147483648) (hb : -2147483648 ≤ b ∧ b < 2147483648) (hd : -2147483648 ≤ d ∧ d < 2147483648) (hK : KK i S) : op_29 q a b d S (KK (i + 1)) := by
  obtain ⟨h, hB⟩ := hK
  obtain ⟨h1, h2, h3, h4, ⟨sh, si, e3, e4, e1, e2⟩, h6, h7, h8, h9, h10⟩ := id h
  obtain ⟨z, S1, z', S2, k1, k2, k3, y⟩ := op29_ok (q := q) (S := S) (a := a) (b := b) (d := d) ha hb hd h6.1
  have kx : KX (i + 1) S2 := by
    rcases y with y | ⟨y1, y2, y3, y4, y5⟩
    · rw [y]; exact KX_0 h
    · rw [y5]; exact kx_29 h (hs_ix y1) y3 y4
  exact ⟨z, S1, z', S2, k1, k2, k3, kx, EV_B k2 (EV_B k1 hB)⟩
theorem st_30 (hi : i < 1000) (ha : -2147483648 ≤ a ∧ a < 2147483648) (hb : -2147483648 ≤ b ∧ b < 2147483648) (hd : -2147483648 ≤ d ∧ d < 2147483648) (hK : KK i S) : op_30 q a b d S (KK (i + 1)) := by
  obtain ⟨h, hB⟩ := hK
  obtain ⟨h1, h2, h3, h4, ⟨sh, si, e3, e4, e1, e2⟩, h6, h7, h8, h9, h10⟩ := id h
  obtain ⟨z, S1, z', S2, k1, k2, k3, y⟩ := op30_ok (q := q) (S := S) (a := a) (b := b) (d := d) h6.1 h6.2 h10.1 h10.2.1
  exact ⟨z, S1, z', S2, k1, k2, k3, kx_30 h y, EV_B k2 (EV_B k1 hB)⟩
theorem st_31 (hi : i < 1000) (ha : -2147483648 ≤ a ∧ a < 2147483648) (hb : -2147483648 ≤ b ∧ b < 2147483648) (hd : -2147483648 ≤ d ∧ d < 2147483648) (hK : KK i S) : op_31 q a b d S (KK (i + 1)) := by
  obtain ⟨h, hB⟩ := hK
  obtain ⟨h1, h2, h3, h4, ⟨sh, si, e3, e4, e1, e2⟩, h6, h7, h8, h9, h10⟩ := id h
  obtain ⟨z, S1, z', S2, k1, k2, k3, y⟩ := op31_ok (q := q) (S := S) (a := a) (b := b) (d := d) h6.1 h6.2 h2 h10.1
  exact ⟨z, S1, z', S2, k1, k2, k3, kx_31 h y, EV_B k2 (EV_B k1 hB)⟩
theorem st_32 (hi : i < 1000) (ha : -2147483648 ≤ a ∧ a < 2147483648) (hb : -2147483648 ≤ b ∧ b < 2147483648) (hd : -2147483648 ≤ d ∧ d < 2147483648) (hK : KK i S) : op_32 q a b d S (KK (i + 1)) := by
  obtain ⟨h, hB⟩ := hK
  obtain ⟨h1, h2, h3, h4, ⟨sh, si, e3, e4, e1, e2⟩, h6, h7, h8, h9, h10⟩ := id h
  have hm : mI i < 100000 := by unfold mI; omega
  have em : mI (i + 1) = mI i + 1 := by unfold mI; omega
  obtain ⟨z, S1, z', S2, k1, k2, k3, y⟩ := op32_ok (q := q) (S := S) (a := a) (b := b) (d := d) h7 hm h1
  exact ⟨z, S1, z', S2, k1, k2, k3, kx_O h y.1 (by rw [em]; exact y.2), EV_B k2 (EV_B k1 hB)⟩
theorem st_33 (hi : i < 1000) (ha : -2147483648 ≤ a ∧ a < 2147483648) (hb : -2147483648 ≤ b ∧ b < 2147483648) (hd : -2147483648 ≤ d ∧ d < 2147483648) (hK : KK i S) : op_33 q a b d S (KK (i + 1)) := by
  obtain ⟨h, hB⟩ := hK
  obtain ⟨h1, h2, h3, h4, ⟨sh, si, e3, e4, e1, e2⟩, h6, h7, h8, h9, h10⟩ := id h
  obtain ⟨z, S1, z', S2, k1, k2, k3, y⟩ := op33_ok (q := q) (S := S) (a := a) (b := b) (d := d) ha h7 h2
  exact ⟨z, S1, z', S2, k1, k2, k3, kx_33 h y, EV_B k2 (EV_B k1 hB)⟩
theorem st_34 (hi : i < 1000) (ha : -2147483648 ≤ a ∧ a < 2147483648) (hb : -2147483648 ≤ b ∧ b < 2147483648) (hd : -2147483648 ≤ d ∧ d < 2147483648) (hK : KK i S) : op_34 q a b d S (KK (i + 1)) := by
  obtain ⟨h, hB⟩ := hK
  obtain ⟨h1, h2, h3, h4, ⟨sh, si, e3, e4, e1, e2⟩, h6, h7, h8, h9, h10⟩ := id h
  obtain ⟨z, S1, z', S2, k1, k2, k3, y⟩ := op34_ok (q := q) (S := S) (a := a) (b := b) (d := d) ha h7
  exact ⟨z, S1, z', S2, k1, k2, k3, kx_O h y.1 (RO_m y.2 (mI_r i).1 (mI_r i).2), EV_B k2 (EV_B k1 hB)⟩
theorem st_35 (hi : i < 1000) (ha : -2147483648 ≤ a ∧ a < 2147483648) (hb : -2147483648 ≤ b ∧ b < 2147483648) (hd : -2147483648 ≤ d ∧ d < 2147483648) (hK : KK i S) : op_35 q a b d S (KK (i + 1)) := by
  obtain ⟨h, hB⟩ := hK
  obtain ⟨h1, h2, h3, h4, ⟨sh, si, e3, e4, e1, e2⟩, h6, h7, h8, h9, h10⟩ := id h
  obtain ⟨z, S1, z', S2, k1, k2, k3, y⟩ := op35_ok (q := q) (S := S) (a := a) (b := b) (d := d) ha hb h7
  exact ⟨z, S1, z', S2, k1, k2, k3, kx_35 h y, EV_B k2 (EV_B k1 hB)⟩
theorem st_36 (hi : i < 1000) (ha : -2147483648 ≤ a ∧ a < 2147483648) (hb : -2147483648 ≤ b ∧ b < 2147483648) (hd : -2147483648 ≤ d ∧ d < 2147483648) (hK : KK i S) : op_36 q a b d S (KK (i + 1)) := by
  obtain ⟨h, hB⟩ := hK
  obtain ⟨h1, h2, h3, h4, ⟨sh, si, e3, e4, e1, e2⟩, h6, h7, h8, h9, h10⟩ := id h
  obtain ⟨z, S1, z', S2, k1, k2, k3, y⟩ := op36_ok (q := q) (S := S) (a := a) (b := b) (d := d) ⟨h7.1.1, h7.1.2.1, h7.1.2.2.1⟩
  exact ⟨z, S1, z', S2, k1, k2, k3, by rw [y]; exact KX_0 h, EV_B k2 (EV_B k1 hB)⟩
end KpG
theorem law_runs {L : Nat} {xs : Nat → Int32} (hL : L ≤ 2048) : pg_Law L xs := by
  refine law_of hL 999 (by omega) (by decide) KK (fun S h => KK_ini h) (fun i S h => ⟨KX_mono h.1, h.2⟩) (fun i S c a b d hi hK ha hb hd => ?_)
  have hi' : i < 1000 := by omega
  exact ⟨fun _ => st_0 hi' ha hb hd hK, fun _ => st_1 hi' ha hb hd hK, fun _ => st_2 hi' ha hb hd hK, fun _ => st_3 hi' ha hb hd hK, fun _ => st_4 hi' ha hb hd hK, fun _ => st_5 hi' ha hb hd hK, fun _ => st_6 hi' ha hb hd hK, fun _ => st_7 hi' ha hb hd hK, fun _ => st_8 hi' ha hb hd hK, fun _ => st_9 hi' ha hb hd hK, fun _ => st_10 hi' ha hb hd hK, fun _ => st_11 hi' ha hb hd hK, fun _ => st_12 hi' ha hb hd hK, fun _ => st_13 hi' ha hb hd hK, fun _ => st_14 hi' ha hb hd hK, fun _ => st_15 hi' ha hb hd hK, fun _ => st_16 hi' ha hb hd hK, fun _ => st_17 hi' ha hb hd hK, fun _ => st_18 hi' ha hb hd hK, fun _ => st_19 hi' ha hb hd hK, fun _ => st_20 hi' ha hb hd hK, fun _ => st_21 hi' ha hb hd hK, fun _ => st_22 hi' ha hb hd hK, fun _ => st_23 hi' ha hb hd hK, fun _ => st_24 hi' ha hb hd hK, fun _ => st_25 hi' ha hb hd hK, fun _ => st_26 hi' ha hb hd hK, fun _ => st_27 hi' ha hb hd hK, fun _ => st_28 hi' ha hb hd hK, fun _ => st_29 hi' ha hb hd hK, fun _ => st_30 hi' ha hb hd hK, fun _ => st_31 hi' ha hb hd hK, fun _ => st_32 hi' ha hb hd hK, fun _ => st_33 hi' ha hb hd hK, fun _ => st_34 hi' ha hb hd hK, fun _ => st_35 hi' ha hb hd hK, fun _ => st_36 hi' ha hb hd hK⟩
