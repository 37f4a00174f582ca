theorem cmp_eq {t a b : Int32} (ht : 0 ≤ t ∧ t ≤ 7) : (f_cmp t a b = 0) ↔ (f_hd t a b = 0) := by
  obtain ⟨n, -, hn, rfl⟩ := w_nI (a := 0) (b := 7) (by decide) (by decide) rfl rfl ht
  have hn' : n = 0 ∨ n = 1 ∨ n = 2 ∨ n = 3 ∨ n = 4 ∨ n = 5 ∨ n = 6 ∨ n = 7 := by omega
  unfold f_cmp f_hd
  by_cases h1 : a < b
  · have h2 : ¬ b < a := fun z => Int32.lt_irrefl (Int32.lt_trans h1 z)
    have h3 : ¬ a = b := fun z => Int32.lt_irrefl (z ▸ h1)
    have h4 : ¬ b ≤ a := Int32.not_le.mpr h1
    have h5 : a ≤ b := Int32.le_of_lt h1
    simp only [h1, h2, h3, h4, h5, if_true, if_false]
    rcases hn' with rfl | rfl | rfl | rfl | rfl | rfl | rfl | rfl <;> decide
  · by_cases h2 : b < a
    · have h3 : ¬ a = b := fun z => Int32.lt_irrefl (z ▸ h2)
      have h4 : b ≤ a := Int32.le_of_lt h2
      have h5 : ¬ a ≤ b := Int32.not_le.mpr h2
      simp only [h1, h2, h3, h4, h5, if_true, if_false]
      rcases hn' with rfl | rfl | rfl | rfl | rfl | rfl | rfl | rfl <;> decide
    · have h3 : a = b := Int32.le_antisymm (Int32.not_lt.mp h2) (Int32.not_lt.mp h1)
      subst h3
      have h4 : a ≤ a := Int32.le_refl a
      simp only [h1, h4, if_true, if_false]
      rcases hn' with rfl | rfl | rfl | rfl | rfl | rfl | rfl | rfl <;> decide
theorem deed_eq {v x d : Int32} (hv : isB v) (hx : isB x) (hd : 0 ≤ d ∧ d ≤ 7) : f_deed v x d = g_deed d x v ∧ isB (f_deed v x d) := by
  obtain ⟨n, -, hn, rfl⟩ := w_nI (a := 0) (b := 7) (by decide) (by decide) rfl rfl hd
  have hn' : n = 0 ∨ n = 1 ∨ n = 2 ∨ n = 3 ∨ n = 4 ∨ n = 5 ∨ n = 6 ∨ n = 7 := by omega
  obtain ⟨y, hy, rfl⟩ := hx
  have T : ∀ d, d < 8 → d ≠ 2 → ∀ y, y < 256 → (f_deed 0 (nI y) (nI d) = g_deed (nI d) (nI y) 0 ∧ f_deed 0 (nI y) (nI d) &&& 255 = f_deed 0 (nI y) (nI d)) := by decide +kernel
  by_cases z : n = 2
  · subst z
    exact ⟨rfl, hv⟩
  · have q := T n (by omega) z y hy
    have e1 : f_deed v (nI y) (nI n) = f_deed 0 (nI y) (nI n) := by
      rcases hn' with rfl | rfl | rfl | rfl | rfl | rfl | rfl | rfl <;> first | exact absurd rfl z | rfl
    have e2 : g_deed (nI n) (nI y) v = g_deed (nI n) (nI y) 0 := by
      rcases hn' with rfl | rfl | rfl | rfl | rfl | rfl | rfl | rfl <;> first | exact absurd rfl z | rfl
    rw [e1, e2]
    exact ⟨q.1, q.2 ▸ isB_and _⟩
/-! the relation between the class's state and the model's -/
def r_sc (s : Int32 × Int32 × Int32 × Int32) (sc : Int32) (si : Nat → Int32) : Prop := (sc = 0 ∧ s.2.2.1 < s.1) ∨ (sc = 1 ∧ ¬ s.2.2.1 < s.1 ∧ si 0 = s.1 ∧ si 1 = s.2.1 ∧ si 2 = s.2.2.1 ∧ si 3 = s.2.2.2)
def r_st (a : cR) (su : Nat → Int32) (A : Nat) : Prop := su A = a.1 ∧ (a.1 = -1 ∨ ((0 ≤ a.1 ∧ a.1 ≤ 7) ∧ (su (A + 1) = a.2.1 ∧ isB a.2.1) ∧ (su (A + 2) = a.2.2.1) ∧ (su (A + 3) = a.2.2.2.1) ∧ (su (A + 4) = a.2.2.2.2.1 ∧ 0 ≤ a.2.2.2.2.1 ∧ a.2.2.2.2.1 ≤ 7) ∧ (su (A + 5) = a.2.2.2.2.2.1 ∧ 0 ≤ a.2.2.2.2.2.1 ∧ a.2.2.2.2.2.1 ≤ 7) ∧ (su (A + 6) = a.2.2.2.2.2.2 ∧ 0 ≤ a.2.2.2.2.2.2 ∧ a.2.2.2.2.2.2 ≤ 7)))
def r_bl (b : cR) (eq ea : Int32) (fa : Nat → Int32) : Prop := eq = b.2.2.2.2.1 ∧ (b.2.2.2.2.1 = -1 ∨ ((0 ≤ b.2.2.2.2.1 ∧ b.2.2.2.2.1 ≤ 4) ∧ (ea = b.2.2.2.2.2.1 ∧ 0 ≤ b.2.2.2.2.2.1 ∧ b.2.2.2.2.2.1 ≤ 4) ∧ (fa 0 = b.1 ∧ 0 ≤ b.1 ∧ b.1 ≤ 14) ∧ (fa 1 = b.2.1 ∧ 0 ≤ b.2.1 ∧ b.2.1 ≤ 14) ∧ (fa 2 = b.2.2.1 ∧ 0 ≤ b.2.2.1 ∧ b.2.2.1 ≤ 14) ∧ (fa 3 = b.2.2.2.1 ∧ 0 ≤ b.2.2.2.1 ∧ b.2.2.2.1 ≤ 14)))
def r_cn (x : Int32) (cn : Nat → Int32) : Prop := ∀ k, k < 4 → cn k = chn x k
def r_an (a b : Nat → Int32) : Prop := ∀ k, k < 4 → a k = b k
def r_p1 (co de sn : Nat → Int32) (t : m3) (p : Nat) : Prop := (∀ k, k < 4 → t.1 (4 * p + k) = chn (co p) k) ∧ t.2.1 p = de p ∧ t.2.2 p = sn p ∧ isB (sn p)
def r_pl (co de sn : Nat → Int32) (t : m3) (n : Nat) : Prop := ∀ p, p < n → r_p1 co de sn t p
def r_lg (t lo hi : Int32) : Prop := lo ≤ t ∧ t ≤ hi
def zrel (c : cSt) (m : mSt) : Prop :=
  cOK c ∧ (m.1.2 = (c.2.1.2.1, c.2.1.2.2.1, c.2.1.2.2.2.1, c.2.1.2.2.2.2.1)) ∧ r_sc c.2.2.2.1 m.2.1.1 m.2.2.2.1.1 ∧
  ((m.2.1.2.1 = c.1.1 ∧ r_lg c.1.1 (-1) 7) ∧ m.2.1.2.2.1 = c.1.2.1) ∧ (m.2.1.2.2.2.2.2.1 = c.1.2.2.1 ∧ r_lg c.1.2.2.1 (-1) 15) ∧ (c.1.2.2.2 = f_bits m.2.1.2.2.2.2.2.2 ∧ r_lg m.2.1.2.2.2.2.2.2 0 15) ∧
  r_st c.2.2.2.2.1 m.2.2.2.1.2.1 0 ∧ r_st c.2.2.2.2.2.1 m.2.2.2.1.2.1 7 ∧ r_bl c.2.2.2.2.2.2.1 m.2.1.2.2.2.1 m.2.1.2.2.2.2.1 m.2.2.2.1.2.2.1 ∧ r_cn c.2.2.2.2.2.2.1.2.2.2.2.2.2 m.2.2.2.1.2.2.2 ∧ r_an c.2.2.2.2.2.2.2 m.2.2.2.2.1 ∧
  r_pl c.2.2.1.2.1 c.2.2.1.2.2.1 c.2.2.1.2.2.2 m.2.2.1 c.2.1.2.2.2.2.2.toNatClampNeg
def kOf (o : zO) : Int32 := match o with
  | .inl _ => 0
  | .inr 6 => 1
  | .inr _ => 2
/-- the two runs of one call agree: what is thrown, the answer, and the states afterwards -/
def agr (o : zO × cSt) (b : zO × mSt) : Prop := kOf o.1 = b.2.1.1 ∧ (∀ v, o.1 = .inl (some (.int v)) → b.1 = .inl (some (.int v))) ∧ zrel o.2 b.2
theorem m1_le {x hi : Int32} (h : (-1) ≤ x ∧ x ≤ hi) : x < 0 ↔ x = -1 := by
  obtain ⟨h1, -⟩ := h
  rw [Int32.le_iff_toInt_le, show (-1 : Int32).toInt = -1 by decide] at h1
  constructor
  · intro z
    rw [Int32.lt_iff_toInt_lt, show (0 : Int32).toInt = 0 by decide] at z
    exact Int32.toInt_inj.mp (by rw [show (-1 : Int32).toInt = -1 by decide]; omega)
  · rintro rfl; decide
theorem nn_m1 {x hi : Int32} (h : 0 ≤ x ∧ x ≤ hi) : ¬ x < 0 ∧ ¬ x = -1 := by
  refine ⟨Int32.not_lt.mpr h.1, ?_⟩
  rintro rfl
  exact absurd h.1 (by decide)
theorem ge0 {x hi : Int32} (h : (-1) ≤ x ∧ x ≤ hi) (z : ¬ x = -1) : 0 ≤ x ∧ x ≤ hi := ⟨Int32.not_lt.mp (fun y => z ((m1_le h).mp y)), h.2⟩
/-- in the scissors -/
theorem hold_eq {s : Int32 × Int32 × Int32 × Int32} {sc hs x y : Int32} {si : Nat → Int32} (h : r_sc s sc si) (hh : ¬ hs = 0) : (f_hold s.1 s.2.1 s.2.2.1 s.2.2.2 x y = 0) ↔ (f_opn sc (si 0) (si 1) (si 2) (si 3) hs x y = 0) := by
  unfold f_hold f_opn
  rw [if_neg hh]
  rcases h with ⟨rfl, h⟩ | ⟨rfl, h, e0, e1, e2, e3⟩
  · rw [if_pos h, if_pos rfl]
  · rw [if_neg h, if_neg (show ¬ (1 : Int32) = 0 by decide), e0, e1, e2, e3]
    by_cases z1 : x < s.1
    · rw [if_pos z1, if_pos z1]
    · rw [if_neg z1, if_neg z1]
      by_cases z2 : s.2.2.1 ≤ x
      · rw [if_pos z2]
        by_cases z3 : y < s.2.1
        · rw [if_pos z3]
        · rw [if_neg z3, if_pos z2]
      · rw [if_neg z2]
        by_cases z3 : y < s.2.1
        · rw [if_pos z3, if_pos z3]
        · rw [if_neg z3, if_neg z3, if_neg z2]
          by_cases z4 : s.2.2.2 ≤ y
          · rw [if_pos z4, if_neg (Int32.not_lt.mpr z4)]
          · rw [if_neg z4, if_pos (Int32.not_le.mp z4)]
/-- where a place of the frame lies -/
theorem has_nI {X Y WW HH : Nat} {x y : Int32} (hX : X ≤ 1023) (hY : Y ≤ 1023) (hW : WW ≤ 64) (hH : HH ≤ 64) (h : ¬ f_has (nI X) (nI Y) (nI WW) (nI HH) x y = 0) : ∃ i j : Nat, i < WW ∧ j < HH ∧ x = nI (X + i) ∧ y = nI (Y + j) := by
  unfold f_has at h
  by_cases z1 : x < nI X
  · rw [if_pos z1] at h; exact absurd rfl h
  · rw [if_neg z1] at h
    by_cases z2 : nI X + nI WW ≤ x
    · rw [if_pos z2] at h; exact absurd rfl h
    · rw [if_neg z2] at h
      by_cases z3 : y < nI Y
      · rw [if_pos z3] at h; exact absurd rfl h
      · rw [if_neg z3] at h
        by_cases z4 : nI Y + nI HH ≤ y
        · rw [if_pos z4] at h; exact absurd rfl h
        · rw [nI_add, Int32.not_le, Int32.lt_iff_toInt_lt, nI_toInt (by omega)] at z2 z4
          rw [Int32.lt_iff_toInt_lt, nI_toInt (by omega)] at z1 z3
          refine ⟨x.toInt.toNat - X, y.toInt.toNat - Y, by omega, by omega, Int32.toInt_inj.mp ?_, Int32.toInt_inj.mp ?_⟩
          · rw [nI_toInt (by omega)]; omega
          · rw [nI_toInt (by omega)]; omega
theorem rel_c00 : zrel c00 m00 := by
  refine ⟨⟨0, 0, 1, 1, by decide, by decide, by decide, by decide, by decide, by decide, rfl, rfl, rfl, rfl, rfl, by decide, by decide, rfl⟩, rfl, Or.inl ⟨rfl, by decide⟩, ⟨⟨rfl, by decide, by decide⟩, rfl⟩, ⟨rfl, by decide, by decide⟩, ⟨?_, by decide, by decide⟩, ⟨rfl, Or.inl rfl⟩, ⟨rfl, Or.inl rfl⟩, ⟨rfl, Or.inl rfl⟩, ?_, fun _ _ => rfl, ?_⟩
  · decide +kernel
  · intro k hk
    rcases k4 hk with rfl | rfl | rfl | rfl <;> decide +kernel
  · intro p _
    refine ⟨?_, rfl, rfl, isB_0⟩
    intro k hk
    exact (by decide +kernel : ∀ k, k < 4 → (0 : Int32) = chn 0 k) k hk
