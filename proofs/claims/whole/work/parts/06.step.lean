section ZST
variable {p : Program} {l : Launch} {e : Env} {R : Room} {s : State} {m : MethodId} {args : Array Value} {below : List Frame} {meth : Method} {c : Code} {Q : State → Prop}
variable {cc : ByteArray} {D : va_G} {cl : List vw_C} {A : Nat → Prop} {nL n0 : Nat} {ad0 : Nat → Nat} {own : String} {cI cL : ClassId} {Ts : List Cond}
variable {G : Nat → Option (Nat × Nat × FieldType × Bool)} {E : Nat → Nat → Option zEn} {X : Nat → Option (Nat × Nat)} {SL : Nat → Bool} {NW : Nat → Option (Nat × Nat × List Value)} {CS : Nat → Option Int32} {HD : Nat → Nat → Option Nat}
variable {sc : Option (Nat × (Nat → Int32))} {ctor : Bool} {KK : zO → zH → Bool → Nat → Nat → Prop}
set_option maxHeartbeats 4000000 in
set_option maxRecDepth 100000 in
theorem zwI_sound (hx : p.tables.exec = Jvm.exec) (hb : c.code = cc) (hown : s.vm.findClass own = some m.cls) (hts : ∀ w ∈ Ts, w.before args s = true) (hK : va_K D cl [(cI, .int), (cL, .long)] s) (hA : ∀ q, s.heap.size ≤ q → A q)
    (hG : ∀ idx ci kf ty fin, G idx = some (ci, kf, ty, fin) → zFok Ts cl own ctor idx ci kf ty fin) (hctor : ctor = true → meth.name = "<init>")
    (hCS : ∀ i v, CS i = some v → Cond.constant own i v ∈ Ts) (hNW : ∀ idx ci n fs, NW idx = some (ci, n, fs) → zNok Ts cl own idx ci n fs) (hAC : Cond.arrayClass .int ∈ Ts)
    (hE : ∀ kd idx en, E kd idx = some en → zRow p l e R s m args below meth c cc D cl A nL kd idx en)
    (hHD : ∀ pc ci hp, HD pc ci = some hp → ∀ (Q : State → Prop) (H : Heap) (locs : List Loc) (k q : Nat) (a : Addr) (ls : Array Slot) (rest : List Value), va_at D cl (a, .inr (ci, [])) H → W p l e R s m args below meth c H locs k q Q (F0 m hp ls [.ref a]) → zWt p l e R s m args below meth c H locs k q Q a (F0 m pc ls rest))
    (hX : ∀ i ci ic, X i = some (ci, ic) → ∀ (pc j : Nat) (h : zH) (k q : Nat) (st : List Value) (lc : zLc), (st.map fun v => v.category).sum ≤ 8 → decode cc pc = .ok (.new i, 3) → k + 1 ≤ R.cells → q + 6 ≤ R.slots → decode cc (pc + 3) = .ok (.dup, 1) → decode cc (pc + 4) = .ok (.ldc j, 2) → SL j = true → decode cc (pc + 6) = .ok (.invokespecial ic, 3) → decode cc (pc + 9) = .ok (.athrow, 1) → KK (.inr ci) h false k q →
      zJ p l e R s m args below meth c Q D cl A nL n0 ad0 pc lc st h false k q)
    (hRi : ∀ (x : Int32) (h : zH) (wr : Bool) (k q pc : Nat) (lc : zLc), KK (.inl (some (.int x))) h wr k q → decode cc pc = .ok (.ireturn, 1) → zJ p l e R s m args below meth c Q D cl A nL n0 ad0 pc lc [.int x] h wr k q)
    (hRa : ∀ (x : Nat) (h : zH) (wr : Bool) (k q pc : Nat) (lc : zLc), KK (.inl (some (.ref x))) h wr k q → decode cc pc = .ok (.areturn, 1) → zJ p l e R s m args below meth c Q D cl A nL n0 ad0 pc lc [.ref x] h wr k q)
    (hRv : ∀ (h : zH) (wr : Bool) (k q pc : Nat) (lc : zLc), KK (.inl none) h wr k q → decode cc pc = .ok (.return_, 1) → zJ p l e R s m args below meth c Q D cl A nL n0 ad0 pc lc [] h wr k q)
    (hsc : ∀ L xs, sc = some (L, xs) → va_X (ad0 1000) L xs s s.heap ∧ ad0 1000 < s.heap.size ∧ ¬ A (ad0 1000))
    {rec : zRc} (hrec : ∀ pc lc st h wr k q, rec pc lc st h wr k q → zJ p l e R s m args below meth c Q D cl A nL n0 ad0 pc lc st h wr k q)
    {pc : Nat} {lc : zLc} {st : List Value} {h : zH} {wr : Bool} {k q : Nat} (hw : zwI cc G E X SL NW CS HD sc cI cL R.cells R.slots ctor KK rec (decode cc pc) pc lc st h wr k q) :
    zJ p l e R s m args below meth c Q D cl A nL n0 ad0 pc lc st h wr k q := by
  have hcall : ∀ kd idx, decode cc pc = .ok (zins kd idx, 3) → zcal cc HD R.cells R.slots rec (E kd idx) pc lc st h wr k q → zJ p l e R s m args below meth c Q D cl A nL n0 ad0 pc lc st h wr k q := by
    intro kd idx hd hw ad H locs ls hS
    cases hE1 : E kd idx with
    | none => rw [hE1] at hw; exact hw.elim
    | some en =>
      rw [hE1] at hw
      obtain ⟨na, rc, fx, ro, mc, ms, T⟩ := en
      obtain ⟨h1, h2, h3, h4, h5, h6, h7⟩ := hw
      have hst : st = ((st.take na).reverse).reverse ++ st.drop na := by rw [List.reverse_reverse, List.take_append_drop]
      have hrow := hE kd idx _ hE1 Q pc ls (st.take na).reverse (st.drop na) h ad H locs k q _ hd (by simp [List.length_take]; omega) h2 hS.2.2.2.1.1.1 h6 h4 h5 hS.1 hS.2.1 hS.2.2.1 h7
      rw [← hst] at hrow
      refine hrow (fun o h' ad' H1 locs1 hK' hag hfx hlen hP1 hD1 hS1 hro => ?_)
      obtain ⟨hfl, hK'⟩ := hK'
      have hn0 := hS.2.2.2.2.2.2.1
      have had0 : h'.length = n0 → ad' = ad0 := fun z => (hfx (by omega)).trans (hS.2.2.2.2.2.2.2 (by omega))
      have hag0 : zag n0 ad' ad0 := by
        intro i hi
        rw [hag i (by rcases hi with hi | hi; exact Or.inl (Nat.lt_of_lt_of_le hi hS.2.2.2.2.2.2.1); exact Or.inr hi)]
        exact hS.2.2.2.2.2.1 i hi
      have hrest : (st.drop na).map (za_v ad) = (st.drop na).map (za_v ad') := by
        rcases h3 with h3 | ⟨-, h3⟩
        · rw [hfx (hfl h3)]
        · exact (za_s_b (fun i hi => hag i (Or.inl hi)) h3).symm
      have hloc : zl_has ad' ls nL lc := by
        rcases h3 with h3 | ⟨h3, -⟩
        · rw [hfx (hfl h3)]; exact hS.2.2.2.1
        · exact zl_b (fun i hi => hag i (Or.inl hi)) hS.2.2.2.1 h3
      cases o with
      | inl v =>
        show W _ _ _ _ _ _ _ _ _ _ _ _ _ _ _ (F0 m (pc + 3) ls ((v.map (za_v ad')).toList ++ (st.drop na).map (za_v ad)))
        rw [hrest]
        have := hrec _ _ _ _ _ _ _ hK' ad' H1 locs1 ls ⟨hP1, hD1, hS1, hloc, fun hwr => by
          rw [Bool.or_eq_false_iff] at hwr
          have hro' : ro = true := by have := hwr.2; simpa using this
          obtain ⟨e1, e2⟩ := hro v rfl hro'
          obtain ⟨e3, e4⟩ := hS.2.2.2.2.1 hwr.1
          exact ⟨e1.trans e3, e2.trans e4⟩, hag0, Nat.le_trans hn0 hlen, had0⟩
        rw [List.map_append] at this
        cases v <;> exact this
      | inr ci =>
        show ∀ a, va_at D cl (a, .inr (ci, [])) H1 → zWt p l e R s m args below meth c H1 locs1 (k + mc) (q + ms) Q a (F0 m pc ls ((st.drop na).map (za_v ad)))
        intro a ha
        have hK2 : zcat cc rec (HD pc ci) lc h' (k + mc) (q + ms) := hK'
        unfold zcat at hK2
        cases hh : HD pc ci with
        | none => rw [hh] at hK2; exact hK2.elim
        | some hp =>
          rw [hh] at hK2
          refine hHD pc ci hp hh Q H1 locs1 _ _ a ls _ ha ?_
          dsimp only at hK2
          split at hK2
          · rename_i j hdd
            refine lv_astore_n hx hb hdd rfl (zl_lv hloc) (by rw [← hloc.1.2]; exact hK2.1) rfl (fun ls' hl' => ?_)
            exact hrec _ _ _ _ _ _ _ hK2.2 ad' H1 locs1 ls' ⟨hP1, hD1, hS1, zl_st hloc hl' (fun v hv => by cases hv), (fun z => by cases z), hag0, Nat.le_trans hn0 hlen, had0⟩
          · rename_i j hdd
            refine lv_astore hx hb hdd (zl_lv hloc) (by rw [← hloc.1.2]; exact hK2.1) rfl (fun ls' hl' => ?_)
            exact hrec _ _ _ _ _ _ _ hK2.2 ad' H1 locs1 ls' ⟨hP1, hD1, hS1, zl_st hloc hl' (fun v hv => by cases hv), (fun z => by cases z), hag0, Nat.le_trans hn0 hlen, had0⟩
          · exact hK2.elim
  generalize hd : decode cc pc = d at hw
  unfold zwI at hw
  split at hw
  -- iconst, bipush, sipush, ldc, null
  · intro ad H locs ls hS
    exact lv_iconst hx hb hd rfl (hrec _ _ _ _ _ _ _ hw ad H locs ls hS)
  · intro ad H locs ls hS
    exact lv_bipush hx hb hd rfl (hrec _ _ _ _ _ _ _ hw ad H locs ls hS)
  · intro ad H locs ls hS
    exact lv_sipush hx hb hd rfl (hrec _ _ _ _ _ _ _ hw ad H locs ls hS)
  · intro ad H locs ls hS
    split at hw
    · rename_i v hv
      exact lv_ldc hx hb hown (hts _ (hCS _ _ hv)) hd (hrec _ _ _ _ _ _ _ hw ad H locs ls hS)
    · exact hw.elim
  · intro ad H locs ls hS
    split at hw
    · rename_i v hv
      exact lv_ldcw hx hb hown (hts _ (hCS _ _ hv)) hd (hrec _ _ _ _ _ _ _ hw ad H locs ls hS)
    · exact hw.elim
  · intro ad H locs ls hS
    exact lv_null hx hb hd (hrec _ _ _ _ _ _ _ hw ad H locs ls hS)
  -- loads
  · obtain ⟨x, e1, hw⟩ := zli_s hw
    intro ad H locs ls hS
    exact lv_iload_n hx hb hd rfl (zl_at hS.2.2.2.1 e1) (hrec _ _ _ _ _ _ _ hw ad H locs ls hS)
  · obtain ⟨x, e1, hw⟩ := zli_s hw
    intro ad H locs ls hS
    exact lv_iload hx hb hd (zl_at hS.2.2.2.1 e1) (hrec _ _ _ _ _ _ _ hw ad H locs ls hS)
  · obtain ⟨x, e1, hw⟩ := zlr_s hw
    intro ad H locs ls hS
    exact lv_aload_n hx hb hd rfl (zl_at hS.2.2.2.1 e1) (hrec _ _ _ _ _ _ _ hw ad H locs ls hS)
  · obtain ⟨x, e1, hw⟩ := zlr_s hw
    intro ad H locs ls hS
    exact lv_aload hx hb hd (zl_at hS.2.2.2.1 e1) (hrec _ _ _ _ _ _ _ hw ad H locs ls hS)
  -- stores
  · obtain ⟨hi, hw⟩ := hw
    obtain ⟨x, r, rfl, hw⟩ := zi1_s hw
    intro ad H locs ls hS
    exact lv_istore_n hx hb hd rfl (zl_lv hS.2.2.2.1) (by rw [← hS.2.2.2.1.1.2]; exact hi) rfl (fun ls' hl' => hrec _ _ _ _ _ _ _ hw ad H locs ls' (zS_i hS (zl_st hS.2.2.2.1 hl' (fun v hv => by cases hv; exact ⟨rfl, rfl⟩))))
  · obtain ⟨hi, hw⟩ := hw
    obtain ⟨x, r, rfl, hw⟩ := zi1_s hw
    intro ad H locs ls hS
    exact lv_istore hx hb hd (zl_lv hS.2.2.2.1) (by rw [← hS.2.2.2.1.1.2]; exact hi) rfl (fun ls' hl' => hrec _ _ _ _ _ _ _ hw ad H locs ls' (zS_i hS (zl_st hS.2.2.2.1 hl' (fun v hv => by cases hv; exact ⟨rfl, rfl⟩))))
  · obtain ⟨hi, hw⟩ := hw
    obtain ⟨x, r, rfl, hw⟩ := zr1_s hw
    intro ad H locs ls hS
    exact lv_astore_n hx hb hd rfl (zl_lv hS.2.2.2.1) (by rw [← hS.2.2.2.1.1.2]; exact hi) rfl (fun ls' hl' => hrec _ _ _ _ _ _ _ hw ad H locs ls' (zS_i hS (zl_st hS.2.2.2.1 hl' (fun v hv => by cases hv; exact ⟨rfl, rfl⟩))))
  · obtain ⟨hi, hw⟩ := hw
    obtain ⟨x, r, rfl, hw⟩ := zr1_s hw
    intro ad H locs ls hS
    exact lv_astore hx hb hd (zl_lv hS.2.2.2.1) (by rw [← hS.2.2.2.1.1.2]; exact hi) rfl (fun ls' hl' => hrec _ _ _ _ _ _ _ hw ad H locs ls' (zS_i hS (zl_st hS.2.2.2.1 hl' (fun v hv => by cases hv; exact ⟨rfl, rfl⟩))))
  · rename_i i n
    obtain ⟨hi, hw⟩ := hw
    obtain ⟨x, e1, hw⟩ := zli_s hw
    intro ad H locs ls hS
    obtain ⟨k0, hk0⟩ := List.getElem?_of_mem (zl_mem (ad := ad) (lc := lc) (q := (i, Value.int x)) |>.mpr ⟨.int x, e1, rfl⟩)
    exact lv_iinc (k := k0) hx hb hd (zl_lv hS.2.2.2.1) hk0 rfl (by rw [← hS.2.2.2.1.1.2]; exact hi) rfl (fun ls' hl' => hrec _ _ _ _ _ _ _ hw ad H locs ls' (zS_i hS (zl_st hS.2.2.2.1 hl' (fun v hv => by cases hv; exact ⟨rfl, rfl⟩))))
  -- arithmetic
  · obtain ⟨x, y, r, rfl, hw⟩ := zi2_s hw
    exact fun ad H locs ls hS => lv_iadd hx hb hd (hrec _ _ _ _ _ _ _ hw ad H locs ls hS)
  · obtain ⟨x, y, r, rfl, hw⟩ := zi2_s hw
    exact fun ad H locs ls hS => lv_isub hx hb hd (hrec _ _ _ _ _ _ _ hw ad H locs ls hS)
  · obtain ⟨x, y, r, rfl, hw⟩ := zi2_s hw
    exact fun ad H locs ls hS => lv_imul hx hb hd (hrec _ _ _ _ _ _ _ hw ad H locs ls hS)
  · obtain ⟨x, y, r, rfl, hy, hw⟩ := zi2_s hw
    exact fun ad H locs ls hS => lv_idiv hx hb hd hy (hrec _ _ _ _ _ _ _ hw ad H locs ls hS)
  · obtain ⟨x, y, r, rfl, hw⟩ := zi2_s hw
    exact fun ad H locs ls hS => lv_iand hx hb hd (hrec _ _ _ _ _ _ _ hw ad H locs ls hS)
  · obtain ⟨x, y, r, rfl, hw⟩ := zi2_s hw
    exact fun ad H locs ls hS => lv_ior hx hb hd (hrec _ _ _ _ _ _ _ hw ad H locs ls hS)
  · obtain ⟨x, y, r, rfl, hw⟩ := zi2_s hw
    exact fun ad H locs ls hS => lv_ixor hx hb hd (hrec _ _ _ _ _ _ _ hw ad H locs ls hS)
  · obtain ⟨x, y, r, rfl, hw⟩ := zi2_s hw
    exact fun ad H locs ls hS => lv_ishl hx hb hd (hrec _ _ _ _ _ _ _ hw ad H locs ls hS)
  · obtain ⟨x, y, r, rfl, hw⟩ := zi2_s hw
    exact fun ad H locs ls hS => lv_ishr hx hb hd (hrec _ _ _ _ _ _ _ hw ad H locs ls hS)
  · obtain ⟨x, y, r, rfl, hw⟩ := zi2_s hw
    exact fun ad H locs ls hS => lv_iushr hx hb hd rfl (hrec _ _ _ _ _ _ _ hw ad H locs ls hS)
  · obtain ⟨x, r, rfl, hw⟩ := zi1_s hw
    exact fun ad H locs ls hS => lv_i2l hx hb hd rfl (hrec _ _ _ _ _ _ _ hw ad H locs ls hS)
  · obtain ⟨x, y, r, rfl, hw⟩ := zl2_s hw
    exact fun ad H locs ls hS => W.lcmp hx hb hd (hrec _ _ _ _ _ _ _ hw ad H locs ls hS)
  -- the stack
  · obtain ⟨v, r, rfl, hc1, hw⟩ := zv1_s hw
    exact fun ad H locs ls hS => lv_dup hx hb hd (by rw [za_cat]; exact hc1) (hrec _ _ _ _ _ _ _ hw ad H locs ls hS)
  · obtain ⟨v, r, rfl, hc1, hw⟩ := zv1_s hw
    exact fun ad H locs ls hS => lv_pop hx hb hd (by rw [za_cat]; exact hc1) (hrec _ _ _ _ _ _ _ hw ad H locs ls hS)
  · obtain ⟨v, w, r, rfl, hc1, hc2, hw⟩ := zv2_s hw
    exact fun ad H locs ls hS => lv_dup_x1 hx hb hd (by rw [za_cat]; exact hc1) (by rw [za_cat]; exact hc2) (hrec _ _ _ _ _ _ _ hw ad H locs ls hS)
  · obtain ⟨v, w, r, rfl, hc1, hc2, hw⟩ := zv2_s hw
    exact fun ad H locs ls hS => lv_dup2_11 hx hb hd (by rw [za_cat]; exact hc1) (by rw [za_cat]; exact hc2) (hrec _ _ _ _ _ _ _ hw ad H locs ls hS)
  · obtain ⟨v, w, u, r, rfl, hc1, hc2, hc3, hw⟩ := zv3_s hw
    exact fun ad H locs ls hS => lv_dup_x2 hx hb hd (by rw [za_cat]; exact hc1) (by rw [za_cat]; exact hc2) (by rw [za_cat]; exact hc3) (hrec _ _ _ _ _ _ _ hw ad H locs ls hS)
  -- jumps
  · obtain ⟨h0, hw⟩ := hw
    exact fun ad H locs ls hS => lv_goto hx hb hd (by omega) (hrec _ _ _ _ _ _ _ hw ad H locs ls hS)
  · rename_i c0 o
    obtain ⟨h0, hw⟩ := hw
    obtain ⟨x, r, rfl, h1, h2⟩ := zi1_s hw
    intro ad H locs ls hS
    have ht : (pc : Int) + o = (((pc : Int) + o).toNat : Int) := by omega
    cases c0 with
    | eq => exact lv_if_eq hx hb hd ht (fun z => hrec _ _ _ _ _ _ _ (h1 z) ad H locs ls hS) (fun z => hrec _ _ _ _ _ _ _ (h2 z) ad H locs ls hS)
    | ne => exact lv_if_ne hx hb hd ht (fun z => hrec _ _ _ _ _ _ _ (h1 z) ad H locs ls hS) (fun z => hrec _ _ _ _ _ _ _ (h2 (fun y => y z)) ad H locs ls hS)
    | lt => exact lv_if_lt hx hb hd ht (fun z => hrec _ _ _ _ _ _ _ (h1 z) ad H locs ls hS) (fun z => hrec _ _ _ _ _ _ _ (h2 z) ad H locs ls hS)
    | ge => exact lv_if_ge hx hb hd ht (fun z => hrec _ _ _ _ _ _ _ (h1 z) ad H locs ls hS) (fun z => hrec _ _ _ _ _ _ _ (h2 z) ad H locs ls hS)
    | gt => exact lv_if_gt hx hb hd ht (fun z => hrec _ _ _ _ _ _ _ (h1 z) ad H locs ls hS) (fun z => hrec _ _ _ _ _ _ _ (h2 z) ad H locs ls hS)
    | le => exact lv_if_le hx hb hd ht (fun z => hrec _ _ _ _ _ _ _ (h1 z) ad H locs ls hS) (fun z => hrec _ _ _ _ _ _ _ (h2 z) ad H locs ls hS)
  · rename_i c0 o
    obtain ⟨h0, hw⟩ := hw
    obtain ⟨x, y, r, rfl, h1, h2⟩ := zi2_s hw
    intro ad H locs ls hS
    have ht : (pc : Int) + o = (((pc : Int) + o).toNat : Int) := by omega
    cases c0 with
    | eq => exact lv_icmp_eq hx hb hd ht (fun z => hrec _ _ _ _ _ _ _ (h1 z) ad H locs ls hS) (fun z => hrec _ _ _ _ _ _ _ (h2 z) ad H locs ls hS)
    | ne => exact lv_icmp_ne hx hb hd ht (fun z => hrec _ _ _ _ _ _ _ (h1 z) ad H locs ls hS) (fun z => hrec _ _ _ _ _ _ _ (h2 (fun y => y z)) ad H locs ls hS)
    | lt => exact lv_icmp_lt hx hb hd ht (fun z => hrec _ _ _ _ _ _ _ (h1 z) ad H locs ls hS) (fun z => hrec _ _ _ _ _ _ _ (h2 z) ad H locs ls hS)
    | ge => exact lv_icmp_ge hx hb hd ht (fun z => hrec _ _ _ _ _ _ _ (h1 z) ad H locs ls hS) (fun z => hrec _ _ _ _ _ _ _ (h2 z) ad H locs ls hS)
    | gt => exact lv_icmp_gt hx hb hd ht (fun z => hrec _ _ _ _ _ _ _ (h1 z) ad H locs ls hS) (fun z => hrec _ _ _ _ _ _ _ (h2 z) ad H locs ls hS)
    | le => exact lv_icmp_le hx hb hd ht (fun z => hrec _ _ _ _ _ _ _ (h1 z) ad H locs ls hS) (fun z => hrec _ _ _ _ _ _ _ (h2 z) ad H locs ls hS)
  · rename_i d0 lo hi offs len
    obtain ⟨hn, hw⟩ := hw
    obtain ⟨x, r, rfl, hw⟩ := zi1_s hw
    intro ad H locs ls hS
    rcases zswT_s hw with ⟨h1, h2, h3⟩ | ⟨j, o, h1, h2, h3, h4⟩
    · exact lv_tableOut hx hb hd (by omega) (by omega) (hrec _ _ _ _ _ _ _ h3 ad H locs ls hS)
    · have hj : j < offs.toList.length := (List.getElem?_eq_some_iff.mp h2).1
      exact lv_tableIn (off := o) hx hb hd (by omega) (by omega) (by rw [show (x.toInt - lo).toNat = j by omega, ← Array.getElem?_toList]; exact h2) (by omega) (hrec _ _ _ _ _ _ _ h4 ad H locs ls hS)
  -- fields
  · rename_i i
    unfold zgetf at hw
    cases hG1 : G i with
    | none => rw [hG1] at hw; exact hw.elim
    | some g =>
      obtain ⟨ci, kf, ty, fin⟩ := g
      rw [hG1] at hw
      obtain ⟨a, r, rfl, hw⟩ := zr1_s hw
      obtain ⟨fs, hi, hw⟩ := zob_s hw
      obtain ⟨v, hv, hw⟩ := zfv_s hw
      obtain ⟨C, T, N, ty0, g1, g2, g3, g4, g5, g6, g7, g8⟩ := hG _ _ _ _ _ hG1
      intro ad H locs ls hS
      have hv' : (fs.map (za_v ad))[kf]? = some (za_v ad v) := by rw [List.getElem?_map, hv]; rfl
      rcases g8 with ⟨hl, -⟩ | ⟨-, host, hl⟩
      · exact va_get (ci := ci) (C := C) (T := T) (N := N) hx hb hts g3 hown hK hS.1 a (za_at hi) g1 kf g2 (hts _ hl) (fun _ z => z) hv' hd (hrec _ _ _ _ _ _ _ hw ad H locs ls hS)
      · exact va_getN (ci := ci) (C := C) (T := T) (N := N) hx hb hts g3 hown hK hS.1 a (za_at hi) g1 kf g2 (hts _ hl) (fun _ z => z) hv' hd (hrec _ _ _ _ _ _ _ hw ad H locs ls hS)
  · rename_i i
    unfold zput at hw
    cases hG1 : G i with
    | none => rw [hG1] at hw; exact hw.elim
    | some g =>
      obtain ⟨ci, kf, ty, fin⟩ := g
      rw [hG1] at hw
      obtain ⟨a, v, r, rfl, hw⟩ := zvr_s hw
      obtain ⟨fs, hi, hf1, hn1, hn2, hl1, hw⟩ := zob_s hw
      obtain ⟨C, T, N, ty0, g1, g2, g3, g4, g5, g6, g7, g8⟩ := hG _ _ _ _ _ hG1
      intro ad H locs ls hS
      obtain ⟨n1, n2⟩ := zn_v (ad := ad) hn1 hn2
      have hd1 : parseFieldDescriptor (T kf).2.2.1 = some ty := by rw [g4 kf g2, g5]
      have he : (za_w ad h).set a (ad a, .inr (ci, (fs.map (za_v ad)).set kf (za_v ad v))) = za_w ad (h.set a (.inr (ci, fs.set kf v))) := by
        rw [← za_set]; simp [za_e, List.map_set]
      have hkk : ∀ (H1 : Heap) (locs1 : List Loc), va_P D cl ((za_w ad h).set a (ad a, .inr (ci, (fs.map (za_v ad)).set kf (za_v ad v)))) H1 → va_D A ((za_w ad h).set a (ad a, .inr (ci, (fs.map (za_v ad)).set kf (za_v ad v)))) → va_S A s.heap H1 locs1 →
          W p l e R s m args below meth c H1 locs1 k q Q (F0 m (pc + 3) ls (r.map (za_v ad))) := by
        intro H1 locs1 hP1 hD1 hS1
        rw [he] at hP1 hD1
        exact hrec _ _ _ _ _ _ _ hw ad H1 locs1 ls ⟨hP1, hD1, hS1, hS.2.2.2.1, (fun z => by cases z), hS.2.2.2.2.2.1, by rw [List.length_set]; exact hS.2.2.2.2.2.2.1, by rw [List.length_set]; exact hS.2.2.2.2.2.2.2⟩
      have hlen : kf < (fs.map (za_v ad)).length := by rw [List.length_map]; exact hl1
      rcases g8 with ⟨hl, hdecl⟩ | ⟨hnf, host, hl⟩
      · cases fin with
        | true => exact va_putF (ci := ci) (C := C) (T := T) (N := N) (v := za_v ad v) hx hb hts g3 ty0 g4 g6 hown hK hS.1 hS.2.1 hS.2.2.1 a (za_at hi) g1 kf g2 (hts _ hl) (fun _ z => z) g7 (hctor (hf1 rfl)) (hdecl rfl) hd1 n1 n2 hlen hd hkk
        | false => exact va_put (ci := ci) (C := C) (T := T) (N := N) (v := za_v ad v) hx hb hts g3 ty0 g4 g6 hown hK hS.1 hS.2.1 hS.2.2.1 a (za_at hi) g1 kf g2 (hts _ hl) (fun _ z => z) g7 hd1 n1 n2 hlen hd hkk
      · cases fin with
        | true => exact absurd ⟨rfl, hf1 rfl⟩ hnf
        | false => exact va_putN (ci := ci) (C := C) (T := T) (N := N) (v := za_v ad v) hx hb hts g3 ty0 g4 g6 hown hK hS.1 hS.2.1 hS.2.2.1 a (za_at hi) g1 kf g2 (hts _ hl) (fun _ z => z) g7 hd1 n1 n2 hlen hd hkk
  -- arrays
  · unfold zial at hw
    obtain ⟨i, j, r, rfl, hw2⟩ := zri_s hw
    clear hw
    intro ad H locs ls hS
    by_cases hi : i = 1000
    · subst hi
      rw [if_pos rfl] at hw2
      cases hs1 : sc with
      | none => rw [hs1] at hw2; exact hw2.elim
      | some q1 =>
        obtain ⟨L, xs⟩ := q1
        rw [hs1] at hw2
        obtain ⟨x1, x2, x3⟩ := hsc L xs hs1
        have e1 : ad 1000 = ad0 1000 := hS.2.2.2.2.2.1 1000 (Or.inr rfl)
        show W _ _ _ _ _ _ _ _ _ _ _ _ _ _ _ (F0 m pc ls (.int j :: .ref (ad 1000) :: r.map (za_v ad)))
        rw [e1]
        exact va_sld hx hb x1 x2 x3 hS.2.2.1 hw2.1 hd (hrec _ _ _ _ _ _ _ hw2.2 ad H locs ls hS)
    · rw [if_neg hi] at hw2
      obtain ⟨cA, n, g, hi, rfl, hin, hw3⟩ := zai_s hw2
      exact va_iald hx hb hK hS.1 i 0 (za_at hi) rfl hin hd (hrec _ _ _ _ _ _ _ hw3 ad H locs ls hS)
  · obtain ⟨i, j, x, r, rfl, hw⟩ := zrii_s hw
    obtain ⟨cA, n, g, hi, rfl, hin, hw⟩ := zai_s hw
    intro ad H locs ls hS
    refine va_iast hx hb hK hS.1 hS.2.1 hS.2.2.1 i 0 (za_at hi) rfl hin hd (fun H1 locs1 hP1 hD1 hS1 => ?_)
    have he : (za_w ad h).set i (ad i, .inl (cA, n, .inl (upd g j.toNatClampNeg x))) = za_w ad (h.set i (.inl (cA, n, .inl (upd g j.toNatClampNeg x)))) := by
      rw [← za_set]; rfl
    rw [he] at hP1 hD1
    exact hrec _ _ _ _ _ _ _ hw ad H1 locs1 ls ⟨hP1, hD1, hS1, hS.2.2.2.1, (fun z => by cases z), hS.2.2.2.2.2.1, by rw [List.length_set]; exact hS.2.2.2.2.2.2.1, by rw [List.length_set]; exact hS.2.2.2.2.2.2.2⟩
  · obtain ⟨i, j, r, rfl, hw⟩ := zri_s hw
    obtain ⟨cA, n, g, hi, rfl, hin, hw⟩ := zal_s hw
    intro ad H locs ls hS
    exact va_lald hx hb hK hS.1 i 1 (za_at hi) rfl hin hd (hrec _ _ _ _ _ _ _ hw ad H locs ls hS)
  · obtain ⟨i, j, x, r, rfl, hw⟩ := zril_s hw
    obtain ⟨cA, n, g, hi, rfl, hin, hw⟩ := zal_s hw
    intro ad H locs ls hS
    refine va_last hx hb hK hS.1 hS.2.1 hS.2.2.1 i 1 (za_at hi) rfl hin hd (fun H1 locs1 hP1 hD1 hS1 => ?_)
    have he : (za_w ad h).set i (ad i, .inl (cA, n, .inr (.inl (vp_updL g j.toNatClampNeg x)))) = za_w ad (h.set i (.inl (cA, n, .inr (.inl (vp_updL g j.toNatClampNeg x))))) := by
      rw [← za_set]; rfl
    rw [he] at hP1 hD1
    exact hrec _ _ _ _ _ _ _ hw ad H1 locs1 ls ⟨hP1, hD1, hS1, hS.2.2.2.1, (fun z => by cases z), hS.2.2.2.2.2.1, by rw [List.length_set]; exact hS.2.2.2.2.2.2.1, by rw [List.length_set]; exact hS.2.2.2.2.2.2.2⟩
  · unfold zlen at hw
    obtain ⟨i, r, rfl, hw2⟩ := zr1_s hw
    clear hw
    intro ad H locs ls hS
    by_cases hi : i = 1000
    · subst hi
      rw [if_pos rfl] at hw2
      cases hs1 : sc with
      | none => rw [hs1] at hw2; exact hw2.elim
      | some q1 =>
        obtain ⟨L, xs⟩ := q1
        rw [hs1] at hw2
        obtain ⟨x1, x2, x3⟩ := hsc L xs hs1
        have e1 : ad 1000 = ad0 1000 := hS.2.2.2.2.2.1 1000 (Or.inr rfl)
        show W _ _ _ _ _ _ _ _ _ _ _ _ _ _ _ (F0 m pc ls (.ref (ad 1000) :: r.map (za_v ad)))
        rw [e1]
        exact va_slen hx hb x1 x2 x3 hS.2.2.1 hd (hrec _ _ _ _ _ _ _ hw2 ad H locs ls hS)
    · rw [if_neg hi] at hw2
      obtain ⟨cA, n, g, hi, rfl, hw3⟩ := zai_s hw2
      exact va_alen hx hb hK hS.1 i 0 (za_at hi) rfl rfl hd (hrec _ _ _ _ _ _ _ hw3 ad H locs ls hS)
  -- calls
  · exact hcall 0 _ hd hw
  · exact hcall 1 _ hd hw
  · exact hcall 2 _ hd hw
  -- new
  · rename_i i
    split at hw
    · rename_i x2 hX1
      obtain ⟨ci, ic⟩ := x2
      obtain ⟨rfl, w0, w1, w2, w3, w45, w6, w7, w8⟩ := hw
      obtain ⟨j, w4, w5⟩ := zldj_s w45
      exact hX i ci ic hX1 pc j h k q st lc w0 hd w1 w2 w3 w4 w5 w6 w7 w8
    · unfold znew at hw
      cases hN1 : NW i with
      | none => rw [hN1] at hw; exact hw.elim
      | some nw =>
        obtain ⟨ci, n, fs⟩ := nw
        rw [hN1] at hw
        obtain ⟨w1, w2, w3, w4, w5, w6, w7, hw⟩ := hw
        obtain ⟨C, T, ty0, g1, g2, g3, g4, g5, g6, g7, g8⟩ := hNW _ _ _ _ hN1
        intro ad H locs ls hS
        refine va_new (ci := ci) (fs := fs) (C := C) (T := T) (N := n) hx hb hts g2 ty0 g3 hown (hts _ g4) (hts _ g5) (hts _ g6) hK hS.1 hS.2.1 hS.2.2.1 hA g1 g7 w1 w2 hd (fun qa H1 hP1 hD1 hS1 => ?_)
        have hag : zag h.length (fun i => if i = h.length then qa else ad i) ad := fun i hi => if_neg (by omega)
        have hag' : ∀ i, i < h.length → (fun i => if i = h.length then qa else ad i) i = ad i := fun i hi => hag i (Or.inl hi)
        have hfs : fs.map (za_v ad) = fs := by
          rw [show fs = fs.map id by simp]
          simp only [List.map_map]
          apply List.map_congr_left
          intro v hv
          have := g8 v (by simpa using hv)
          cases v with
          | ref i => exact absurd rfl (this i)
          | _ => rfl
        have hpu := za_push (ad := ad) (q := qa) (x := .inr (ci, fs)) w5 w6
        have he : za_e ad (.inr (ci, fs)) = .inr (ci, fs) := by show Sum.inr (ci, fs.map (za_v ad)) = _; rw [hfs]
        rw [he] at hpu
        rw [← hpu] at hP1 hD1
        have hst : (Value.ref qa :: st.map (za_v ad)) = (Value.ref h.length :: st).map (za_v (fun i => if i = h.length then qa else ad i)) := by
          rw [List.map_cons, za_s_b hag' w4]
          simp [za_v]
        show W _ _ _ _ _ _ _ _ _ _ _ _ _ _ _ (F0 m (pc + 3) ls (Value.ref qa :: st.map (za_v ad)))
        rw [hst]
        refine hrec _ _ _ _ _ _ _ hw _ H1 locs ls ⟨hP1, hD1, hS1, zl_b hag' hS.2.2.2.1 w3, (fun z => by cases z), ?_, ?_, ?_⟩
        · intro i hi
          rw [hag i (by rcases hi with hi | hi; exact Or.inl (Nat.lt_of_lt_of_le hi hS.2.2.2.2.2.2.1); exact Or.inr hi)]
          exact hS.2.2.2.2.2.1 i hi
        · simp only [List.length_append, List.length_cons, List.length_nil]
          have := hS.2.2.2.2.2.2.1
          omega
        · intro z
          simp only [List.length_append, List.length_cons, List.length_nil] at z
          have := hS.2.2.2.2.2.2.1
          omega
  · obtain ⟨rfl, hw⟩ := hw
    obtain ⟨x, r, rfl, w1, w2, w3, w4, w5, w6, w7, w8, hw⟩ := zi1_s hw
    intro ad H locs ls hS
    refine va_newa (atype := .int) (a0 := (x.toNatClampNeg, .inl (fun _ => 0))) (ty := .int) hx hb (hts _ hAC) rfl hK hS.1 hS.2.1 hS.2.2.1 hA (fun _ => rfl) w1 rfl (by show x.toNatClampNeg * 4 ≤ _; exact w2) w3 w4 hd (fun qa cA H1 hK1 hP1 hD1 hS1 => ?_)
    have hcA : cA = cI := by
      have h1 := (hK.2 0 (cI, .int) rfl).2
      have h2 := (hK1.2 2 (cA, .int) rfl).2
      exact Option.some.inj (h2.symm.trans h1)
    subst hcA
    have hag : zag h.length (fun i => if i = h.length then qa else ad i) ad := fun i hi => if_neg (by omega)
    have hag' : ∀ i, i < h.length → (fun i => if i = h.length then qa else ad i) i = ad i := fun i hi => hag i (Or.inl hi)
    have hpu := za_push (ad := ad) (q := qa) (x := .inl (cA, x.toNatClampNeg, .inl (fun _ => 0))) w7 trivial
    have he : za_e ad (.inl (cA, x.toNatClampNeg, .inl (fun _ => 0))) = .inl (cA, x.toNatClampNeg, .inl (fun _ => 0)) := rfl
    rw [he] at hpu
    rw [← hpu] at hP1 hD1
    have hst : (Value.ref qa :: r.map (za_v ad)) = (Value.ref h.length :: r).map (za_v (fun i => if i = h.length then qa else ad i)) := by
      rw [List.map_cons, za_s_b hag' w6]
      simp [za_v]
    show W _ _ _ _ _ _ _ _ _ _ _ _ _ _ _ (F0 m (pc + 2) ls (Value.ref qa :: r.map (za_v ad)))
    rw [hst]
    refine hrec _ _ _ _ _ _ _ hw _ H1 locs ls ⟨hP1, hD1, hS1, zl_b hag' hS.2.2.2.1 w5, (fun z => by cases z), ?_, ?_, ?_⟩
    · intro i hi
      rw [hag i (by rcases hi with hi | hi; exact Or.inl (Nat.lt_of_lt_of_le hi hS.2.2.2.2.2.2.1); exact Or.inr hi)]
      exact hS.2.2.2.2.2.1 i hi
    · simp only [List.length_append, List.length_cons, List.length_nil]
      have := hS.2.2.2.2.2.2.1
      omega
    · intro z
      simp only [List.length_append, List.length_cons, List.length_nil] at z
      have := hS.2.2.2.2.2.2.1
      omega
  -- returns
  · obtain ⟨x, r, rfl, rfl, hw2⟩ := zi1_s hw
    exact hRi x h wr k q pc lc hw2 hd
  · obtain ⟨x, r, rfl, rfl, hw2⟩ := zr1_s hw
    exact hRa x h wr k q pc lc hw2 hd
  · obtain ⟨rfl, hw⟩ := hw
    exact hRv h wr k q pc lc hw hd
  · exact hw.elim
end ZST
