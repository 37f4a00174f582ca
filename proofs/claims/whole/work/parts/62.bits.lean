def bt (x : Int32) (i : Nat) : Bool := x.toBitVec.getLsbD i
theorem b_ext {x y : Int32} (h : ∀ i, i < 32 → bt x i = bt y i) : x = y := Int32.toBitVec_inj.mp (BitVec.eq_of_getLsbD_eq (fun i hi => h i hi))
theorem b_or (x y : Int32) (i : Nat) : bt (x ||| y) i = (bt x i || bt y i) := by unfold bt; rw [Int32.toBitVec_or, BitVec.getLsbD_or]
theorem b_and (x y : Int32) (i : Nat) : bt (x &&& y) i = (bt x i && bt y i) := by unfold bt; rw [Int32.toBitVec_and, BitVec.getLsbD_and]
theorem b_xor (x y : Int32) (i : Nat) : bt (x ^^^ y) i = (bt x i ^^ bt y i) := by unfold bt; rw [Int32.toBitVec_xor, BitVec.getLsbD_xor]
theorem b_big {x : Int32} {i : Nat} (h : 32 ≤ i) : bt x i = false := BitVec.getLsbD_of_ge _ _ h
theorem b_255 (i : Nat) : bt 255 i = decide (i < 8) := by
  rcases Nat.lt_or_ge i 32 with h | h
  · exact (by decide +kernel : ∀ i, i < 32 → bt 255 i = decide (i < 8)) i h
  · rw [b_big h, decide_eq_false (by omega)]
theorem b_65535 (i : Nat) : bt 65535 i = decide (i < 16) := by
  rcases Nat.lt_or_ge i 32 with h | h
  · exact (by decide +kernel : ∀ i, i < 32 → bt 65535 i = decide (i < 16)) i h
  · rw [b_big h, decide_eq_false (by omega)]
theorem b_m1 : ∀ i, i < 32 → bt (-1) i = true := by decide +kernel
theorem b_0 (i : Nat) : bt 0 i = false := BitVec.getLsbD_zero
theorem s_l : ∀ n, n < 32 → ((nI n &&& 31).toBitVec.smod 32).toNat = n := by decide +kernel
theorem s_u : ∀ n, n < 32 → (((nI n).toUInt32 &&& Int32.toUInt32 31).toBitVec % 32).toNat = n := by decide +kernel
theorem b_shl (n : Nat) (hn : n < 32) (x : Int32) {i : Nat} (hi : i < 32) : bt (x <<< (nI n &&& 31)) i = (decide (n ≤ i) && bt x (i - n)) := by
  unfold bt
  rw [Int32.toBitVec_shiftLeft]
  show (x.toBitVec <<< ((nI n &&& 31).toBitVec.smod 32).toNat).getLsbD i = _
  rw [s_l n hn, BitVec.getLsbD_shiftLeft]
  rcases Nat.lt_or_ge i n with h | h
  · simp [h, Nat.not_le.mpr h]
  · simp [hi, h, Nat.not_lt.mpr h]
theorem b_ushr (n : Nat) (hn : n < 32) (x : Int32) (i : Nat) : bt ((x.toUInt32 >>> ((nI n).toUInt32 &&& Int32.toUInt32 31)).toInt32) i = bt x (n + i) := by
  show (x.toUInt32 >>> ((nI n).toUInt32 &&& Int32.toUInt32 31)).toBitVec.getLsbD i = x.toUInt32.toBitVec.getLsbD (n + i)
  rw [UInt32.toBitVec_shiftRight]
  show (x.toUInt32.toBitVec >>> (((nI n).toUInt32 &&& Int32.toUInt32 31).toBitVec % 32).toNat).getLsbD i = _
  rw [s_u n hn, BitVec.getLsbD_ushiftRight]
theorem b_sshr (n : Nat) (hn : n < 32) (x : Int32) {i : Nat} (hi : i < 32) : bt (x >>> (nI n &&& 31)) i = if n + i < 32 then bt x (n + i) else bt x 31 := by
  unfold bt
  rw [Int32.toBitVec_shiftRight]
  show (x.toBitVec.sshiftRight ((nI n &&& 31).toBitVec.smod 32).toNat).getLsbD i = _
  rw [s_l n hn, BitVec.getLsbD_sshiftRight, BitVec.msb_eq_getLsbD_last]
  simp [hi]
/-! channels and bytes by their bits -/
def isB (x : Int32) : Prop := ∃ n : Nat, n < 256 ∧ x = nI n
theorem b_nI (n i : Nat) (hi : i < 32) : bt (nI n) i = n.testBit i := by
  unfold bt nI
  show (BitVec.ofNat 32 n).getLsbD i = _
  simp only [BitVec.getLsbD_ofNat, hi, decide_true, Bool.true_and]
theorem x_nI (x : Int32) : x = nI x.toBitVec.toNat := by
  apply Int32.toBitVec_inj.1
  show x.toBitVec = BitVec.ofNat 32 x.toBitVec.toNat
  simp
theorem isB_and (x : Int32) : isB (x &&& 255) := by
  refine ⟨x.toBitVec.toNat % 256, Nat.mod_lt _ (by omega), ?_⟩
  apply b_ext
  intro i hi
  rw [b_and, b_255, b_nI _ _ hi, show (256 : Nat) = 2 ^ 8 from rfl, Nat.testBit_mod_two_pow]
  unfold bt
  rw [BitVec.testBit_toNat]
  rw [Bool.and_comm]
theorem isB_bits {x : Int32} (h : isB x) {i : Nat} (hi : i < 32) (h8 : 8 ≤ i) : bt x i = false := by
  obtain ⟨n, hn, rfl⟩ := h
  rw [b_nI _ _ hi]
  exact Nat.testBit_lt_two_pow (Nat.lt_of_lt_of_le hn (by
    calc (256 : Nat) = 2 ^ 8 := rfl
      _ ≤ 2 ^ i := Nat.pow_le_pow_right (by omega) h8))
theorem isB_of {x : Int32} (h : ∀ i, i < 32 → 8 ≤ i → bt x i = false) : isB x := by
  have e : x = x &&& 255 := by
    apply b_ext
    intro i hi
    rw [b_and, b_255]
    by_cases h8 : i < 8
    · simp [h8]
    · rw [h i hi (by omega)]; simp
  rw [e]
  exact isB_and x
theorem isB_le {x : Int32} (h : 0 ≤ x ∧ x ≤ 255) : isB x := by
  obtain ⟨h1, h2⟩ := h
  rw [Int32.le_iff_toInt_le] at h1 h2
  have e0 : (0 : Int32).toInt = 0 := by decide
  have e1 : (255 : Int32).toInt = 255 := by decide
  rw [e0] at h1
  rw [e1] at h2
  refine ⟨x.toInt.toNat, by omega, Int32.toInt_inj.mp ?_⟩
  rw [nI_toInt (by omega)]
  omega
theorem w_nI {w lo hi : Int32} {a b : Nat} (hb : b < 2 ^ 31) (hab : a ≤ b) (e1 : lo = nI a) (e2 : hi = nI b) (h : lo ≤ w ∧ w ≤ hi) : ∃ n, a ≤ n ∧ n ≤ b ∧ w = nI n := by
  obtain ⟨h1, h2⟩ := h
  subst e1 e2
  rw [Int32.le_iff_toInt_le, nI_toInt (by omega)] at h1
  rw [Int32.le_iff_toInt_le, nI_toInt hb] at h2
  refine ⟨w.toInt.toNat, by omega, by omega, Int32.toInt_inj.mp ?_⟩
  rw [nI_toInt (by omega)]
  omega
/-- channel k of a packed colour -/
def chn (x : Int32) (k : Nat) : Int32 := f_ch x (nI (8 * k))
theorem chn_0 (x : Int32) : f_ch x 0 = chn x 0 := rfl
theorem chn_1 (x : Int32) : f_ch x 8 = chn x 1 := rfl
theorem chn_2 (x : Int32) : f_ch x 16 = chn x 2 := rfl
theorem chn_3 (x : Int32) : f_ch x 24 = chn x 3 := rfl
theorem b_chn (x : Int32) {k : Nat} (hk : k < 4) (i : Nat) : bt (chn x k) i = (bt x (8 * k + i) && decide (i < 8)) := by
  unfold chn f_ch
  rw [b_and, b_255, b_ushr (8 * k) (by omega)]
theorem isB_chn (x : Int32) (k : Nat) : isB (chn x k) := isB_and _
theorem chn_shr (x : Int32) {k : Nat} (hk : k < 4) : (x >>> ((8 * nI k) &&& 31)) &&& 255 = chn x k := by
  have e : 8 * nI k = nI (8 * k) := by
    show nI 8 * nI k = _
    exact pk_mul 8 k
  rw [e]
  apply b_ext
  intro i hi
  rw [b_and, b_255, b_chn x hk]
  by_cases h : i < 8
  · rw [b_sshr (8 * k) (by omega) x hi, if_pos (by omega)]
  · simp [h]
theorem chn_sh0 (x : Int32) : ((x >>> ((0 : Int32) &&& 31)) &&& 255 = chn x 0) ∧ ((x >>> ((8 : Int32) &&& 31)) &&& 255 = chn x 1) ∧ ((x >>> ((16 : Int32) &&& 31)) &&& 255 = chn x 2) ∧ ((x >>> ((24 : Int32) &&& 31)) &&& 255 = chn x 3) :=
  ⟨chn_shr x (k := 0) (by decide), chn_shr x (k := 1) (by decide), chn_shr x (k := 2) (by decide), chn_shr x (k := 3) (by decide)⟩
/-- four bytes packed: each channel is its byte -/
theorem chn_pack {a b c d : Int32} (ha : isB a) (hb : isB b) (hc : isB c) (hd : isB d) : ∀ k, k < 4 → chn ((((0 ||| (a <<< ((0 : Int32) &&& 31))) ||| (b <<< ((8 : Int32) &&& 31))) ||| (c <<< ((16 : Int32) &&& 31))) ||| (d <<< ((24 : Int32) &&& 31))) k = (if k = 0 then a else if k = 1 then b else if k = 2 then c else d) := by
  intro k hk
  apply b_ext
  intro i hi
  rw [b_chn _ hk]
  by_cases h8 : i < 8
  · have s0 := b_shl 0 (by omega) a (i := 8 * k + i) (by omega)
    have s1 := b_shl 8 (by omega) b (i := 8 * k + i) (by omega)
    have s2 := b_shl 16 (by omega) c (i := 8 * k + i) (by omega)
    have s3 := b_shl 24 (by omega) d (i := 8 * k + i) (by omega)
    rw [show ((0 : Int32) &&& 31) = (nI 0 &&& 31) from rfl, show ((8 : Int32) &&& 31) = (nI 8 &&& 31) from rfl, show ((16 : Int32) &&& 31) = (nI 16 &&& 31) from rfl, show ((24 : Int32) &&& 31) = (nI 24 &&& 31) from rfl]
    simp only [b_or, b_0, s0, s1, s2, s3, h8, decide_true, Bool.and_true, Bool.false_or]
    have hk' : k = 0 ∨ k = 1 ∨ k = 2 ∨ k = 3 := by omega
    rcases hk' with rfl | rfl | rfl | rfl
    · have g1 : ¬ 8 ≤ i := by omega
      have g2 : ¬ 16 ≤ i := by omega
      have g3 : ¬ 24 ≤ i := by omega
      simp [g1, g2, g3, h8]
    · have g0 : 8 * 1 + i - 0 = 8 + i := by omega
      have g2 : ¬ 16 ≤ 8 * 1 + i := by omega
      have g3 : ¬ 24 ≤ 8 * 1 + i := by omega
      have g4 : 8 * 1 + i - 8 = i := by omega
      rw [g0, g4, isB_bits ha (by omega) (by omega)]
      simp [g2, g3]
    · have g0 : 8 * 2 + i - 0 = 16 + i := by omega
      have g1 : 8 * 2 + i - 8 = 8 + i := by omega
      have g3 : ¬ 24 ≤ 8 * 2 + i := by omega
      have g4 : 8 * 2 + i - 16 = i := by omega
      rw [g0, g1, g4, isB_bits ha (by omega) (by omega), isB_bits hb (by omega) (by omega)]
      simp [g3]
    · have g0 : 8 * 3 + i - 0 = 24 + i := by omega
      have g1 : 8 * 3 + i - 8 = 16 + i := by omega
      have g3 : 8 * 3 + i - 16 = 8 + i := by omega
      have g4 : 8 * 3 + i - 24 = i := by omega
      rw [g0, g1, g3, g4, isB_bits ha (by omega) (by omega), isB_bits hb (by omega) (by omega), isB_bits hc (by omega) (by omega)]
      simp
  · simp only [h8, decide_false, Bool.and_false]
    split
    · exact (isB_bits ha hi (by omega)).symm
    · split
      · exact (isB_bits hb hi (by omega)).symm
      · split
        · exact (isB_bits hc hi (by omega)).symm
        · exact (isB_bits hd hi (by omega)).symm
/-- a packed colour is what its channels pack to -/
theorem pack_chn (x : Int32) : ((((0 ||| (chn x 0 <<< ((0 : Int32) &&& 31))) ||| (chn x 1 <<< ((8 : Int32) &&& 31))) ||| (chn x 2 <<< ((16 : Int32) &&& 31))) ||| (chn x 3 <<< ((24 : Int32) &&& 31))) = x := by
  apply b_ext
  intro i hi
  have s0 := b_shl 0 (by omega) (chn x 0) hi
  have s1 := b_shl 8 (by omega) (chn x 1) hi
  have s2 := b_shl 16 (by omega) (chn x 2) hi
  have s3 := b_shl 24 (by omega) (chn x 3) hi
  rw [show ((0 : Int32) &&& 31) = (nI 0 &&& 31) from rfl, show ((8 : Int32) &&& 31) = (nI 8 &&& 31) from rfl, show ((16 : Int32) &&& 31) = (nI 16 &&& 31) from rfl, show ((24 : Int32) &&& 31) = (nI 24 &&& 31) from rfl]
  simp only [b_or, b_0, s0, s1, s2, s3, b_chn x (show 0 < 4 by decide), b_chn x (show 1 < 4 by decide), b_chn x (show 2 < 4 by decide), b_chn x (show 3 < 4 by decide), Bool.false_or]
  have hq : i < 8 ∨ (8 ≤ i ∧ i < 16) ∨ (16 ≤ i ∧ i < 24) ∨ 24 ≤ i := by omega
  rcases hq with h | ⟨h, h'⟩ | ⟨h, h'⟩ | h
  · have g1 : ¬ 8 ≤ i := by omega
    have g2 : ¬ 16 ≤ i := by omega
    have g3 : ¬ 24 ≤ i := by omega
    simp [g1, g2, g3, h]
  · have g1 : ¬ i < 8 := by omega
    have g2 : ¬ 16 ≤ i := by omega
    have g3 : ¬ 24 ≤ i := by omega
    have g4 : i - 8 < 8 := by omega
    have g5 : 8 * 1 + (i - 8) = i := by omega
    simp [g1, g2, g3, g4, h]
  · have g1 : ¬ i < 8 := by omega
    have g2 : ¬ i - 8 < 8 := by omega
    have g3 : ¬ 24 ≤ i := by omega
    have g4 : i - 16 < 8 := by omega
    have g5 : 8 ≤ i := by omega
    simp [g1, g2, g3, g4, g5, h]
  · have g1 : ¬ i < 8 := by omega
    have g2 : ¬ i - 8 < 8 := by omega
    have g3 : ¬ i - 16 < 8 := by omega
    have g4 : i - 24 < 8 := by omega
    have g5 : 8 ≤ i := by omega
    have g6 : 16 ≤ i := by omega
    simp [g1, g2, g3, g4, g5, g6, h]
theorem pk_pack (r g b a : Int32) : f_pk r g b a = ((((0 ||| (r <<< ((0 : Int32) &&& 31))) ||| (g <<< ((8 : Int32) &&& 31))) ||| (b <<< ((16 : Int32) &&& 31))) ||| (a <<< ((24 : Int32) &&& 31))) := by
  unfold f_pk
  have e : r <<< ((0 : Int32) &&& 31) = r := by
    apply b_ext
    intro i hi
    have := b_shl 0 (by omega) r hi
    rw [show ((0 : Int32) &&& 31) = (nI 0 &&& 31) from rfl, this]
    simp
  rw [e]
  apply b_ext
  intro i hi
  simp only [b_or, b_0, Bool.false_or]
  generalize bt r i = q1
  generalize bt (g <<< ((8 : Int32) &&& 31)) i = q2
  generalize bt (b <<< ((16 : Int32) &&& 31)) i = q3
  generalize bt (a <<< ((24 : Int32) &&& 31)) i = q4
  cases q1 <;> cases q2 <;> cases q3 <;> cases q4 <;> rfl
theorem bits_t : ∀ n, n < 16 → ∀ j, j < 32 → bt (f_bits (nI n)) j = n.testBit (j / 8) := by decide +kernel
theorem wm_t : ∀ n, n < 16 → ∀ k, k < 4 → (((nI n >>> (nI k &&& 31)) &&& 1 = 1) ↔ n.testBit k = true) := by decide +kernel
/-- the merge under the colour mask, channel by channel -/
theorem chn_mrg {x y wm : Int32} (hw : 0 ≤ wm ∧ wm ≤ 15) {k : Nat} (hk : k < 4) : chn (f_mrg x y (f_bits wm)) k = if (wm >>> (nI k &&& 31)) &&& 1 = 1 then chn y k else chn x k := by
  obtain ⟨n, -, hn, rfl⟩ := w_nI (a := 0) (b := 15) (by decide) (by decide) rfl rfl hw
  have hn : n < 16 := by omega
  apply b_ext
  intro i hi
  have hr : bt (if (nI n >>> (nI k &&& 31)) &&& 1 = 1 then chn y k else chn x k) i = if n.testBit k then bt (chn y k) i else bt (chn x k) i := by
    by_cases z : (nI n >>> (nI k &&& 31)) &&& 1 = 1
    · rw [if_pos z, if_pos ((wm_t n hn k hk).mp z)]
    · rw [if_neg z, if_neg (fun q => z ((wm_t n hn k hk).mpr q))]
  rw [hr, b_chn _ hk, b_chn _ hk, b_chn _ hk]
  unfold f_mrg
  by_cases h8 : i < 8
  · rw [b_or, b_and, b_and, b_xor, bits_t n hn (8 * k + i) (by omega), b_m1 (8 * k + i) (by omega), show (8 * k + i) / 8 = k by omega]
    cases n.testBit k <;> simp
  · simp [h8]
theorem isB_mrg {x y w : Int32} (hx : isB x) (hy : isB y) : isB (f_mrg x y w) := by
  apply isB_of
  intro i hi h8
  unfold f_mrg
  rw [b_or, b_and, b_and, isB_bits hx hi h8, isB_bits hy hi h8]
  rfl
