theorem by_eq (x : Int32) : f_by x = g_by x ∧ isB (g_by x) := by
  unfold f_by g_by
  by_cases h0 : 0 ≤ x
  · rw [if_pos h0]
    obtain ⟨n, hn, rfl⟩ := nI_of (Int32.not_lt.mpr h0)
    by_cases h1 : nI n ≤ 65536
    · have hle : n ≤ 65536 := by
        have h2 := h1
        rw [Int32.le_iff_toInt_le, nI_toInt hn, show (65536 : Int32).toInt = 65536 by decide] at h2
        omega
      rw [if_pos h1, if_neg (Int32.not_lt.mpr h1)]
      have e : (255 * nI n + 32768) / 65536 = nI ((255 * n + 32768) / 65536) := by
        show (nI 255 * nI n + nI 32768) / nI 65536 = _
        rw [pk_mul, nI_add, pk_div (by omega) (by omega) (by omega)]
      refine ⟨?_, ⟨_, ?_, e⟩⟩
      · by_cases h3 : 0 < nI n
        · rw [if_pos h3]
        · rw [if_neg h3]
          have : nI n = 0 := Int32.le_antisymm (Int32.not_lt.mp h3) h0
          rw [this]
      · omega
    · rw [if_neg h1, if_pos (Int32.not_le.mp h1), if_pos (by decide)]
      exact ⟨rfl, 255, by decide, by decide⟩
  · rw [if_neg h0]
    have h1 : ¬ (65536 : Int32) < x := fun z => h0 (Int32.le_of_lt (Int32.lt_trans (by decide) z))
    rw [if_neg h1, if_neg (fun z => h0 (Int32.le_of_lt z))]
    exact ⟨rfl, 0, by decide, by decide⟩
/-- the weighted sum's byte, both ways -/
theorem bw_eq {x : Int32} (h1 : -65025 ≤ x.toInt) (h2 : x.toInt ≤ 130050) : f_bw x = g_nr x ∧ isB (g_nr x) := by
  unfold f_bw g_nr
  by_cases h0 : 0 ≤ x
  · rw [if_pos h0, if_neg (Int32.not_lt.mpr h0)]
    obtain ⟨n, hn, rfl⟩ := nI_of (Int32.not_lt.mpr h0)
    rw [nI_toInt hn] at h2
    have e1 : (nI n + 127) / 255 = nI ((n + 127) / 255) := by
      show (nI n + nI 127) / nI 255 = _
      rw [nI_add, pk_div (by omega) (by omega) (by omega)]
    have e2 : (2 * nI n + 255) / 510 = nI ((n + 127) / 255) := by
      show (nI 2 * nI n + nI 255) / nI 510 = _
      rw [pk_mul, nI_add, pk_div (by omega) (by omega) (by omega)]
      congr 1
      omega
    rw [e1, e2]
    by_cases h3 : (n + 127) / 255 ≤ 255
    · have a : nI ((n + 127) / 255) ≤ 255 := nI_le (b := 255) h3 (by decide)
      rw [if_neg (Int32.not_lt.mpr a), if_pos a]
      exact ⟨rfl, _, by omega, rfl⟩
    · have a : ¬ nI ((n + 127) / 255) ≤ 255 := nI_ge (a := 255) (by omega) (by omega)
      rw [if_pos (Int32.not_le.mp a), if_neg a]
      exact ⟨rfl, 255, by decide, rfl⟩
  · simp only [if_neg h0, if_pos (Int32.not_le.mp h0)]
    exact ⟨by decide, 0, by decide, by decide⟩
theorem isB_mul {a b : Int32} (ha : isB a) (hb : isB b) : ∃ n, n ≤ 65025 ∧ a * b = nI n := by
  obtain ⟨x, hx, rfl⟩ := ha
  obtain ⟨y, hy, rfl⟩ := hb
  exact ⟨x * y, Nat.le_trans (Nat.mul_le_mul (show x ≤ 255 by omega) (show y ≤ 255 by omega)) (by decide), pk_mul x y⟩
theorem isB_inv {a : Int32} (ha : isB a) : isB (255 - a) := by
  obtain ⟨x, hx, rfl⟩ := ha
  exact ⟨255 - x, by omega, pk_sub (a := 255) (by omega)⟩
theorem isB_255 : isB 255 := ⟨255, by decide, rfl⟩
theorem isB_0 : isB 0 := ⟨0, by decide, rfl⟩
theorem isB_ite {c : Prop} [Decidable c] {a b : Int32} (ha : isB a) (hb : isB b) : isB (if c then a else b) := by
  split
  · exact ha
  · exact hb
theorem k4 {k : Nat} (hk : k < 4) : k = 0 ∨ k = 1 ∨ k = 2 ∨ k = 3 := by omega
theorem k3_24 {k : Nat} (hk : k < 4) : (nI (8 * k) = 24) ↔ k = 3 := by
  rcases k4 hk with rfl | rfl | rfl | rfl <;> decide
theorem fac_eq {vs vd cn : Nat → Int32} {c p q w : Int32} {k : Nat} (hk : k < 4) (hs : ∀ j, j < 4 → vs j = chn p j) (hd : ∀ j, j < 4 → vd j = chn q j) (hc : ∀ j, j < 4 → cn j = chn c j) (hw : 0 ≤ w ∧ w ≤ 14) : f_fac c w p q (nI (8 * k)) = g_fc vs vd cn w k ∧ isB (g_fc vs vd cn w k) := by
  obtain ⟨n, -, hn, rfl⟩ := w_nI (a := 0) (b := 14) (by decide) (by decide) rfl rfl hw
  have e1 : ∀ x, f_ch x (nI (8 * k)) = chn x k := fun _ => rfl
  have e2 : ∀ x, f_ch x 24 = chn x 3 := fun _ => rfl
  have hb : ∀ x j, isB (chn x j) := isB_chn
  have h3 : (3 : Nat) < 4 := by decide
  have hn' : n = 0 ∨ n = 1 ∨ n = 2 ∨ n = 3 ∨ n = 4 ∨ n = 5 ∨ n = 6 ∨ n = 7 ∨ n = 8 ∨ n = 9 ∨ n = 10 ∨ n = 11 ∨ n = 12 ∨ n = 13 ∨ n = 14 := by omega
  unfold f_fac g_fc
  rw [e1, e1, e1, e2, e2, e2, hs k hk, hd k hk, hc k hk, hs 3 h3, hd 3 h3, hc 3 h3]
  rcases hn' with rfl | rfl | rfl | rfl | rfl | rfl | rfl | rfl | rfl | rfl | rfl | rfl | rfl | rfl | rfl
  · exact ⟨rfl, isB_0⟩
  · exact ⟨rfl, isB_255⟩
  · exact ⟨rfl, hb _ _⟩
  · exact ⟨rfl, isB_inv (hb _ _)⟩
  · exact ⟨rfl, hb _ _⟩
  · exact ⟨rfl, isB_inv (hb _ _)⟩
  · exact ⟨rfl, hb _ _⟩
  · exact ⟨rfl, isB_inv (hb _ _)⟩
  · exact ⟨rfl, hb _ _⟩
  · exact ⟨rfl, isB_inv (hb _ _)⟩
  · exact ⟨rfl, hb _ _⟩
  · exact ⟨rfl, isB_inv (hb _ _)⟩
  · exact ⟨rfl, hb _ _⟩
  · exact ⟨rfl, isB_inv (hb _ _)⟩
  · show (if nI (8 * k) = 24 then 255 else if 255 - chn q 3 < chn p 3 then 255 - chn q 3 else chn p 3) = (if k = 3 then 255 else if 255 - chn q 3 ≤ chn p 3 then 255 - chn q 3 else chn p 3) ∧ isB (if k = 3 then 255 else if 255 - chn q 3 ≤ chn p 3 then 255 - chn q 3 else chn p 3)
    refine ⟨?_, isB_ite isB_255 (isB_ite (isB_inv (hb _ _)) (hb _ _))⟩
    by_cases z : k = 3
    · rw [if_pos z, if_pos ((k3_24 hk).mpr z)]
    · rw [if_neg z, if_neg (fun y => z ((k3_24 hk).mp y))]
      by_cases y : 255 - chn q 3 < chn p 3
      · rw [if_pos y, if_pos (Int32.le_of_lt y)]
      · rw [if_neg y]
        by_cases y2 : 255 - chn q 3 ≤ chn p 3
        · rw [if_pos y2]
          exact Int32.le_antisymm (Int32.not_lt.mp y) y2
        · rw [if_neg y2]
theorem eq_eq {e u v a b x y : Int32} (hu : isB u) (hv : isB v) (ha : isB a) (hb : isB b) (ex : x = u * a) (ey : y = v * b) (he : 0 ≤ e ∧ e ≤ 4) : f_eq e u v x y = (if e = 0 then g_nr (u * a + v * b) else if e = 1 then g_nr (u * a - v * b) else if e = 2 then g_nr (v * b - u * a) else if e = 3 then (if v ≤ u then v else u) else (if u ≤ v then v else u)) ∧ isB (f_eq e u v x y) := by
  subst ex ey
  obtain ⟨n, hn, e1⟩ := isB_mul hu ha
  obtain ⟨m, hm, e2⟩ := isB_mul hv hb
  unfold f_eq
  by_cases z0 : e = 0
  · rw [if_pos z0, if_pos z0]
    have := bw_eq (x := u * a + v * b) (by rw [e1, e2, nI_add, nI_toInt (by omega)]; omega) (by rw [e1, e2, nI_add, nI_toInt (by omega)]; omega)
    exact ⟨this.1, this.1 ▸ this.2⟩
  · rw [if_neg z0, if_neg z0]
    by_cases z1 : e = 1
    · rw [if_pos z1, if_pos z1]
      have := bw_eq (x := u * a - v * b) (by rw [e1, e2, pk_sub_toInt (by omega) (by omega)]; omega) (by rw [e1, e2, pk_sub_toInt (by omega) (by omega)]; omega)
      exact ⟨this.1, this.1 ▸ this.2⟩
    · rw [if_neg z1, if_neg z1]
      by_cases z2 : e = 2
      · rw [if_pos z2, if_pos z2]
        have := bw_eq (x := v * b - u * a) (by rw [e1, e2, pk_sub_toInt (by omega) (by omega)]; omega) (by rw [e1, e2, pk_sub_toInt (by omega) (by omega)]; omega)
        exact ⟨this.1, this.1 ▸ this.2⟩
      · rw [if_neg z2, if_neg z2]
        by_cases z3 : e = 3
        · rw [if_pos z3, if_pos z3]
          refine ⟨?_, isB_ite hv hu⟩
          by_cases y : v < u
          · rw [if_pos y, if_pos (Int32.le_of_lt y)]
          · rw [if_neg y]
            by_cases y2 : v ≤ u
            · rw [if_pos y2]; exact Int32.le_antisymm (Int32.not_lt.mp y) y2
            · rw [if_neg y2]
        · rw [if_neg z3, if_neg z3]
          refine ⟨?_, isB_ite hv hu⟩
          by_cases y : u < v
          · rw [if_pos y, if_pos (Int32.le_of_lt y)]
          · rw [if_neg y]
            by_cases y2 : u ≤ v
            · rw [if_pos y2]; exact Int32.le_antisymm y2 (Int32.not_lt.mp y)
            · rw [if_neg y2]
theorem bc_eq {vs vd cn fa : Nat → Int32} {s0 p0 s1 p1 e0 e1 c p q : Int32} {k : Nat} (hk : k < 4) (hs : ∀ j, j < 4 → vs j = chn p j) (hd : ∀ j, j < 4 → vd j = chn q j) (hc : ∀ j, j < 4 → cn j = chn c j)
    (h0 : 0 ≤ s0 ∧ s0 ≤ 14) (h1 : 0 ≤ p0 ∧ p0 ≤ 14) (h2 : 0 ≤ s1 ∧ s1 ≤ 14) (h3 : 0 ≤ p1 ∧ p1 ≤ 14) (he0 : 0 ≤ e0 ∧ e0 ≤ 4) (he1 : 0 ≤ e1 ∧ e1 ≤ 4) (f0 : fa 0 = s0) (f1 : fa 1 = p0) (f2 : fa 2 = s1) (f3 : fa 3 = p1) :
    f_bc s0 p0 s1 p1 e0 e1 c p q (nI (8 * k)) = g_bl vs vd cn fa e0 e1 k ∧ isB (f_bc s0 p0 s1 p1 e0 e1 c p q (nI (8 * k))) := by
  unfold f_bc g_bl g_b2
  rw [f0, f1, f2, f3]
  have e1 : ∀ x, f_ch x (nI (8 * k)) = chn x k := fun _ => rfl
  rw [e1, e1, hs k hk, hd k hk]
  obtain ⟨a1, b1⟩ := fac_eq hk hs hd hc h0
  obtain ⟨a2, b2⟩ := fac_eq hk hs hd hc h1
  obtain ⟨a3, b3⟩ := fac_eq hk hs hd hc h2
  obtain ⟨a4, b4⟩ := fac_eq hk hs hd hc h3
  rw [a1, a2, a3, a4]
  by_cases z : k = 3
  · rw [if_pos z, if_neg (Classical.not_not.mpr ((k3_24 hk).mpr z))]
    exact eq_eq (isB_chn _ _) (isB_chn _ _) b3 b4 rfl rfl he1
  · rw [if_neg z, if_pos (fun y => z ((k3_24 hk).mp y))]
    exact eq_eq (isB_chn _ _) (isB_chn _ _) b1 b2 rfl rfl he0
theorem bl_eq {vs vd cn fa : Nat → Int32} {s0 p0 s1 p1 e0 e1 c p q : Int32} (hs : ∀ j, j < 4 → vs j = chn p j) (hd : ∀ j, j < 4 → vd j = chn q j) (hc : ∀ j, j < 4 → cn j = chn c j)
    (h0 : 0 ≤ s0 ∧ s0 ≤ 14) (h1 : 0 ≤ p0 ∧ p0 ≤ 14) (h2 : 0 ≤ s1 ∧ s1 ≤ 14) (h3 : 0 ≤ p1 ∧ p1 ≤ 14) (he0 : 0 ≤ e0 ∧ e0 ≤ 4) (he1 : 0 ≤ e1 ∧ e1 ≤ 4) (f0 : fa 0 = s0) (f1 : fa 1 = p0) (f2 : fa 2 = s1) (f3 : fa 3 = p1) :
    ∀ k, k < 4 → chn (f_bl s0 p0 s1 p1 e0 e1 c p q) k = g_bl vs vd cn fa e0 e1 k := by
  intro k hk
  have B : ∀ j, j < 4 → f_bc s0 p0 s1 p1 e0 e1 c p q (nI (8 * j)) = g_bl vs vd cn fa e0 e1 j ∧ isB (f_bc s0 p0 s1 p1 e0 e1 c p q (nI (8 * j))) := fun j hj => bc_eq hj hs hd hc h0 h1 h2 h3 he0 he1 f0 f1 f2 f3
  have B0 := B 0 (by decide)
  have B1 := B 1 (by decide)
  have B2 := B 2 (by decide)
  have B3 := B 3 (by decide)
  rw [show nI (8 * 0) = (0 : Int32) from rfl] at B0
  rw [show nI (8 * 1) = (8 : Int32) from rfl] at B1
  rw [show nI (8 * 2) = (16 : Int32) from rfl] at B2
  rw [show nI (8 * 3) = (24 : Int32) from rfl] at B3
  unfold f_bl
  rw [chn_pack B0.2 B1.2 B2.2 B3.2 k hk]
  rcases k4 hk with rfl | rfl | rfl | rfl
  · rw [if_pos rfl, B0.1]
  · rw [if_neg (by decide), if_pos rfl, B1.1]
  · rw [if_neg (by decide), if_neg (by decide), if_pos rfl, B2.1]
  · rw [if_neg (by decide), if_neg (by decide), if_neg (by decide), B3.1]
-- logic
theorem lb_v : ∀ n, n < 16 → ∀ (x y : Bool), (nI n >>> ((2 * (if x then (1 : Int32) else 0) + (if y then (1 : Int32) else 0)) &&& 31)) &&& 1 = if n.testBit (2 * x.toNat + y.toNat) then 1 else 0 := by decide +kernel
theorem b_1 : ∀ i, i < 32 → bt 1 i = decide (i = 0) := by decide +kernel
theorem one_bit (x : Int32) {b : Nat} (hb : b < 32) : (x >>> (nI b &&& 31)) &&& 1 = if bt x b then 1 else 0 := by
  apply b_ext
  intro i hi
  rw [b_and, b_1 i hi]
  by_cases h : i = 0
  · subst h
    rw [b_sshr b hb x (by omega), if_pos (by omega)]
    cases bt x (b + 0) <;> simp_all [bt]
  · cases bt x b <;> simp [h, b_1 i hi, b_0]
theorem lb_b {n : Nat} (hn : n < 16) (s d v : Int32) {b : Nat} (hb : b < 32) {i : Nat} (hi : i < 32) : bt (f_lb (nI n) s d (nI b) v) i = (bt v i || (decide (i = b) && n.testBit (2 * (bt s b).toNat + (bt d b).toNat))) := by
  unfold f_lb
  rw [one_bit s hb, one_bit d hb, lb_v n hn, b_or, b_shl b hb _ hi]
  congr 1
  by_cases h : i = b
  · subst h
    cases n.testBit (2 * (bt s i).toNat + (bt d i).toNat) <;> simp [b_1, b_0]
  · by_cases h2 : b ≤ i
    · have : ¬ i - b = 0 := by omega
      cases n.testBit (2 * (bt s b).toNat + (bt d b).toNat) <;> simp [b_1 (i - b) (by omega), b_0, h, this]
    · simp [h, h2]
theorem g_bits_b {n : Nat} (hn : n < 16) (s d : Int32) {i : Nat} (hi : i < 32) : bt (g_bits (nI n) s d) i = (decide (i < 8) && n.testBit (2 * (bt s i).toNat + (bt d i).toNat)) := by
  unfold g_bits
  rw [show (7 : Int32) = nI 7 from rfl, show (6 : Int32) = nI 6 from rfl, show (5 : Int32) = nI 5 from rfl, show (4 : Int32) = nI 4 from rfl, show (3 : Int32) = nI 3 from rfl, show (2 : Int32) = nI 2 from rfl, show (1 : Int32) = nI 1 from rfl]
  rw [lb_b hn s d _ (by decide) hi, lb_b hn s d _ (by decide) hi, lb_b hn s d _ (by decide) hi, lb_b hn s d _ (by decide) hi, lb_b hn s d _ (by decide) hi, lb_b hn s d _ (by decide) hi, lb_b hn s d _ (by decide) hi]
  have := lb_b hn s d 0 (b := 0) (by decide) hi
  rw [show nI 0 = (0 : Int32) from rfl] at this
  rw [this, b_0]
  by_cases h : i < 8
  · have : i = 0 ∨ i = 1 ∨ i = 2 ∨ i = 3 ∨ i = 4 ∨ i = 5 ∨ i = 6 ∨ i = 7 := by omega
    rcases this with rfl | rfl | rfl | rfl | rfl | rfl | rfl | rfl <;> simp
  · have g0 : ¬ i = 0 := by omega
    have g1 : ¬ i = 1 := by omega
    have g2 : ¬ i = 2 := by omega
    have g3 : ¬ i = 3 := by omega
    have g4 : ¬ i = 4 := by omega
    have g5 : ¬ i = 5 := by omega
    have g6 : ¬ i = 6 := by omega
    have g7 : ¬ i = 7 := by omega
    simp [h, g0, g1, g2, g3, g4, g5, g6, g7]
theorem lg_b {n : Nat} (hn : n < 16) (s d : Int32) {i : Nat} (hi : i < 32) : bt (f_lg (nI n) s d) i = n.testBit (2 * (bt s i).toNat + (bt d i).toNat) := by
  have m1 := b_m1 i hi
  have nt : ∀ x : Int32, bt (~~~x) i = !bt x i := fun x => by unfold bt; rw [Int32.toBitVec_not, BitVec.getLsbD_not]; simp [hi]
  have : n = 0 ∨ n = 1 ∨ n = 2 ∨ n = 3 ∨ n = 4 ∨ n = 5 ∨ n = 6 ∨ n = 7 ∨ n = 8 ∨ n = 9 ∨ n = 10 ∨ n = 11 ∨ n = 12 ∨ n = 13 ∨ n = 14 ∨ n = 15 := by omega
  have L : ∀ n, n < 16 → bt (f_lg (nI n) s d) i = ((n.testBit 0 && (!bt s i && !bt d i)) || (n.testBit 1 && (!bt s i && bt d i)) || (n.testBit 2 && (bt s i && !bt d i)) || (n.testBit 3 && (bt s i && bt d i))) := by
    intro n hn
    have q1 : ∀ n, n < 16 → ((nI n &&& 1 = 0) ↔ n.testBit 0 = false) := by decide +kernel
    have q2 : ∀ n, n < 16 → ((nI n &&& 2 = 0) ↔ n.testBit 1 = false) := by decide +kernel
    have q4 : ∀ n, n < 16 → ((nI n &&& 4 = 0) ↔ n.testBit 2 = false) := by decide +kernel
    have q8 : ∀ n, n < 16 → ((nI n &&& 8 = 0) ↔ n.testBit 3 = false) := by decide +kernel
    unfold f_lg
    simp only [q1 n hn, q2 n hn, q4 n hn, q8 n hn]
    cases n.testBit 0 <;> cases n.testBit 1 <;> cases n.testBit 2 <;> cases n.testBit 3 <;> simp [b_or, b_and, nt, b_0, m1]
  rw [L n hn]
  have h2 : ∀ n, n < 16 → ∀ (x y : Bool), ((n.testBit 0 && (!x && !y)) || (n.testBit 1 && (!x && y)) || (n.testBit 2 && (x && !y)) || (n.testBit 3 && (x && y))) = n.testBit (2 * x.toNat + y.toNat) := by decide +kernel
  exact h2 n hn _ _
theorem lg_eq {lg p q : Int32} (hl : 0 ≤ lg ∧ lg ≤ 15) {k : Nat} (hk : k < 4) : chn (f_lg lg p q) k = g_bits lg (chn p k) (chn q k) := by
  obtain ⟨n, -, hn, rfl⟩ := w_nI (a := 0) (b := 15) (by decide) (by decide) rfl rfl hl
  have hn : n < 16 := by omega
  apply b_ext
  intro i hi
  rw [b_chn _ hk, g_bits_b hn _ _ hi, b_chn _ hk, b_chn _ hk]
  by_cases h : i < 8
  · rw [lg_b hn p q (by omega)]
    simp [h]
  · simp [h]
