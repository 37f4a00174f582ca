/-! the law: its own steps, where the script's place (1000) stays -/
def zb1 (n : Nat) (v : Value) : Prop := match v with
  | .ref i => i < n ∨ i = 1000
  | _ => True
def zb1o (n : Nat) (o : Option Value) : Prop := match o with
  | some v => zb1 n v
  | none => True
theorem za_v1 {ad ad' : Nat → Nat} {n : Nat} (hag : zag n ad' ad) {v : Value} (hb : zb1 n v) : za_v ad' v = za_v ad v := by
  cases v with
  | ref i => exact congrArg Value.ref (hag i hb)
  | _ => rfl
theorem za_s1 {ad ad' : Nat → Nat} {n : Nat} (hag : zag n ad' ad) {st : List Value} (hb : ∀ v ∈ st, zb1 n v) : st.map (za_v ad') = st.map (za_v ad) :=
  List.map_congr_left (fun v hv => za_v1 hag (hb v hv))
theorem zl_b1 {ad ad' : Nat → Nat} {n : Nat} (hag : zag n ad' ad) {ls : Array Slot} {nL : Nat} {lc : zLc} (h : zl_has ad ls nL lc) (hb : ∀ o ∈ lc, zb1o n o) : zl_has ad' ls nL lc := by
  refine ⟨h.1, h.2.1, fun i v e => ?_⟩
  obtain ⟨h1, h2⟩ := h.2.2 i v e
  refine ⟨?_, h2⟩
  rw [za_v1 hag (hb (some v) (List.mem_of_getElem? e))]
  exact h1
section ZLAW
variable {p : Program} {l : Launch} {e : Env} {R : Room} {s : State} {m : MethodId} {args : Array Value} {below : List Frame} {meth : Method} {c : Code} {Q : State → Prop}
variable {cc : ByteArray} {D : va_G} {cl : List vw_C} {A : Nat → Prop} {nL n0 : Nat} {ad0 : Nat → Nat} {own : String} {cI cL : ClassId} {Ts : List Cond}
theorem zl_call {kd idx na : Nat} {rc : Option Nat} {fx ro : Bool} {mc ms : Nat} {T : zT} (hE : zRow p l e R s m args below meth c cc D cl A nL kd idx (na, rc, fx, ro, mc, ms, T)) {pc : Nat} (hd : decode cc pc = .ok (zins kd idx, 3)) {lc : zLc} {as rest : List Value} {h : zH} {wr : Bool} {k q : Nat}
    (hna : as.length = na) (hrv : zrv rc as h) (hb1 : ∀ o ∈ lc, zb1o h.length o) (hb2 : ∀ v ∈ rest, zb1 h.length v) (hk : k + mc ≤ R.cells) (hq : q + ms ≤ R.slots) (hcat : (rest.map fun v => v.category).sum ≤ 8)
    (hT : T as h (fun o h' => match o with
      | .inl v => zJ p l e R s m args below meth c Q D cl A nL n0 ad0 (pc + 3) lc (v.toList ++ rest) h' true (k + mc) (q + ms)
      | .inr _ => False)) : zJ p l e R s m args below meth c Q D cl A nL n0 ad0 pc lc (as.reverse ++ rest) h wr k q := by
  intro ad H locs ls hS
  refine hE Q pc ls as rest h ad H locs k q _ hd hna hrv hS.2.2.2.1.1.1 hcat hk hq hS.1 hS.2.1 hS.2.2.1 hT (fun o h' ad' H1 locs1 hK' hag hfx hlen hP1 hD1 hS1 hro => ?_)
  have hn0 := hS.2.2.2.2.2.2.1
  have had0 : h'.length = n0 → ad' = ad0 := fun z => (hfx (by omega)).trans (hS.2.2.2.2.2.2.2 (by omega))
  have hag0 : zag n0 ad' ad0 := by
    intro i hi
    rw [hag i (by rcases hi with hi | hi; exact Or.inl (Nat.lt_of_lt_of_le hi hS.2.2.2.2.2.2.1); exact Or.inr hi)]
    exact hS.2.2.2.2.2.1 i hi
  have hrest : rest.map (za_v ad) = rest.map (za_v ad') := (za_s1 hag hb2).symm
  have hloc : zl_has ad' ls nL lc := zl_b1 hag hS.2.2.2.1 hb1
  cases o with
  | inl v =>
    show W _ _ _ _ _ _ _ _ _ _ _ _ _ _ _ (F0 m (pc + 3) ls ((v.map (za_v ad')).toList ++ rest.map (za_v ad)))
    rw [hrest]
    have := hK' ad' H1 locs1 ls ⟨hP1, hD1, hS1, hloc, (fun z => by cases z), hag0, Nat.le_trans hn0 hlen, had0⟩
    rw [List.map_append] at this
    cases v <;> exact this
  | inr ci => exact hK'.elim
theorem zl_new {NW : Nat → Option (Nat × Nat × List Value)} (hx : p.tables.exec = Jvm.exec) (hb : c.code = cc) (hown : s.vm.findClass own = some m.cls) (hts : ∀ w ∈ Ts, w.before args s = true) (hK : va_K D cl [(cI, .int), (cL, .long)] s) (hA : ∀ q, s.heap.size ≤ q → A q)
    {i ci n : Nat} {fs : List Value} (hN : zNok Ts cl own i ci n fs) {pc : Nat} (hd : decode cc pc = .ok (.new i, 3)) {lc : zLc} {st : List Value} {h : zH} {wr : Bool} {k q : Nat}
    (w1 : k + 1 ≤ R.cells) (w2 : q + n ≤ R.slots) (w3 : ∀ o ∈ lc, zb1o h.length o) (w4 : ∀ v ∈ st, zb1 h.length v) (w5 : ∀ y ∈ h, zb_e h.length y) (w6 : ∀ v ∈ fs, zb_v h.length v) (w7 : h.length < 1000)
    (hw : zJ p l e R s m args below meth c Q D cl A nL n0 ad0 (pc + 3) lc (.ref h.length :: st) (h ++ [.inr (ci, fs)]) true (k + 1) (q + n)) : zJ p l e R s m args below meth c Q D cl A nL n0 ad0 pc lc st h wr k q := by
  obtain ⟨C, T, ty0, g1, g2, g3, g4, g5, g6, g7, g8⟩ := hN
  intro ad H locs ls hS
  refine va_new (ci := ci) (fs := fs) (C := C) (T := T) (N := n) hx hb hts g2 ty0 g3 hown (hts _ g4) (hts _ g5) (hts _ g6) hK hS.1 hS.2.1 hS.2.2.1 hA g1 g7 w1 w2 hd (fun qa H1 hP1 hD1 hS1 => ?_)
  have hag : zag h.length (fun i => if i = h.length then qa else ad i) ad := fun i hi => if_neg (by omega)
  have hfs : fs.map (za_v ad) = fs := by
    rw [show fs = fs.map id by simp]
    simp only [List.map_map]
    apply List.map_congr_left
    intro v hv
    have := g8 v (by simpa using hv)
    cases v with
    | ref i => exact absurd rfl (this i)
    | _ => rfl
  have hpu := za_push (ad := ad) (q := qa) (x := .inr (ci, fs)) w5 w6
  have he : za_e ad (.inr (ci, fs)) = .inr (ci, fs) := by show Sum.inr (ci, fs.map (za_v ad)) = _; rw [hfs]
  rw [he] at hpu
  rw [← hpu] at hP1 hD1
  have hst : (Value.ref qa :: st.map (za_v ad)) = (Value.ref h.length :: st).map (za_v (fun i => if i = h.length then qa else ad i)) := by
    rw [List.map_cons, za_s1 hag w4]
    simp [za_v]
  show W _ _ _ _ _ _ _ _ _ _ _ _ _ _ _ (F0 m (pc + 3) ls (Value.ref qa :: st.map (za_v ad)))
  rw [hst]
  refine hw _ H1 locs ls ⟨hP1, hD1, hS1, zl_b1 hag hS.2.2.2.1 w3, (fun z => by cases z), ?_, ?_, ?_⟩
  · intro i hi
    rw [hag i (by rcases hi with hi | hi; exact Or.inl (Nat.lt_of_lt_of_le hi hS.2.2.2.2.2.2.1); exact Or.inr hi)]
    exact hS.2.2.2.2.2.1 i hi
  · simp only [List.length_append, List.length_cons, List.length_nil]
    have := hS.2.2.2.2.2.2.1
    omega
  · intro z
    simp only [List.length_append, List.length_cons, List.length_nil] at z
    have := hS.2.2.2.2.2.2.1
    omega
theorem zl_newl (hx : p.tables.exec = Jvm.exec) (hb : c.code = cc) (hts : ∀ w ∈ Ts, w.before args s = true) (hK : va_K D cl [(cI, .int), (cL, .long)] s) (hA : ∀ q, s.heap.size ≤ q → A q) (hAC : Cond.arrayClass .long ∈ Ts)
    {pc : Nat} (hd : decode cc pc = .ok (.newarray .long, 2)) {lc : zLc} {r : List Value} {h : zH} {wr : Bool} {k q : Nat}
    (w3 : k + 1 ≤ R.cells) (w4 : q + 1 ≤ R.slots) (w5 : ∀ o ∈ lc, zb1o h.length o) (w6 : ∀ v ∈ r, zb1 h.length v) (w7 : ∀ y ∈ h, zb_e h.length y) (w8 : h.length < 1000)
    (hw : zJ p l e R s m args below meth c Q D cl A nL n0 ad0 (pc + 2) lc (.ref h.length :: r) (h ++ [.inl (cL, 1, .inr (.inl (fun _ => 0)))]) true (k + 1) (q + 1)) : zJ p l e R s m args below meth c Q D cl A nL n0 ad0 pc lc (.int 1 :: r) h wr k q := by
  intro ad H locs ls hS
  refine va_newa (atype := .long) (a0 := (1, .inr (.inl (fun _ => 0)))) (ty := .long) hx hb (hts _ hAC) rfl hK hS.1 hS.2.1 hS.2.2.1 hA (fun _ => rfl) (by decide) (by decide) (by decide) w3 w4 hd (fun qa cA H1 hK1 hP1 hD1 hS1 => ?_)
  have hcA : cA = cL := by
    have h1 := (hK.2 1 (cL, .long) rfl).2
    have h2 := (hK1.2 2 (cA, .long) rfl).2
    exact Option.some.inj (h2.symm.trans h1)
  subst hcA
  have hag : zag h.length (fun i => if i = h.length then qa else ad i) ad := fun i hi => if_neg (by omega)
  have hpu := za_push (ad := ad) (q := qa) (x := .inl (cA, 1, .inr (.inl (fun _ => 0)))) w7 trivial
  have he : za_e ad (.inl (cA, 1, .inr (.inl (fun _ => 0)))) = .inl (cA, 1, .inr (.inl (fun _ => 0))) := rfl
  rw [he] at hpu
  rw [← hpu] at hP1 hD1
  have hst : (Value.ref qa :: r.map (za_v ad)) = (Value.ref h.length :: r).map (za_v (fun i => if i = h.length then qa else ad i)) := by
    rw [List.map_cons, za_s1 hag w6]
    simp [za_v]
  show W _ _ _ _ _ _ _ _ _ _ _ _ _ _ _ (F0 m (pc + 2) ls (Value.ref qa :: r.map (za_v ad)))
  rw [hst]
  refine hw _ H1 locs ls ⟨hP1, hD1, hS1, zl_b1 hag hS.2.2.2.1 w5, (fun z => by cases z), ?_, ?_, ?_⟩
  · intro i hi
    rw [hag i (by rcases hi with hi | hi; exact Or.inl (Nat.lt_of_lt_of_le hi hS.2.2.2.2.2.2.1); exact Or.inr hi)]
    exact hS.2.2.2.2.2.1 i hi
  · simp only [List.length_append, List.length_cons, List.length_nil]
    have := hS.2.2.2.2.2.2.1
    omega
  · intro z
    simp only [List.length_append, List.length_cons, List.length_nil] at z
    have := hS.2.2.2.2.2.2.1
    omega
/-- new rows take the old ones' places; the old rows are forgotten -/
def zsg (i : Nat) : Nat := if 1 ≤ i ∧ i ≤ 4 then i + 21 else i
def zfx (v : Value) : Prop := match v with
  | .ref i => ¬ (1 ≤ i ∧ i ≤ 4)
  | _ => True
theorem zfx_v {ad : Nat → Nat} {v : Value} (h : zfx v) : za_v (fun i => ad (zsg i)) v = za_v ad v := by
  cases v with
  | ref i => exact congrArg Value.ref (congrArg ad (if_neg h))
  | _ => rfl
theorem zsg_inj {i j : Nat} (hi : i < 22) (hj : j < 22) (h : zsg i = zsg j) : i = j := by
  unfold zsg at h
  split at h <;> split at h <;> omega
theorem zG_at {cI cL : ClassId} {c : cSt} {m : mSt} {o : Nat → Int64} {x y w v : Int32} {ad : Nat → Nat} : ∀ (k : Nat) (z : va_E), (hL cI cL (c_fg c x y w v) m o)[k]? = some z → k < 22 ∧ ∃ z', (hG cI cL c m o x y w v (w * v).toNatClampNeg)[zsg k]? = some z' ∧ za_e (fun i => ad (zsg i)) z = za_e ad z' := by
  intro k z hk
  have hl : k < 22 := (List.getElem?_eq_some_iff.mp hk).1
  refine ⟨hl, ?_⟩
  have : k = 0 ∨ k = 1 ∨ k = 2 ∨ k = 3 ∨ k = 4 ∨ k = 5 ∨ k = 6 ∨ k = 7 ∨ k = 8 ∨ k = 9 ∨ k = 10 ∨ k = 11 ∨ k = 12 ∨ k = 13 ∨ k = 14 ∨ k = 15 ∨ k = 16 ∨ k = 17 ∨ k = 18 ∨ k = 19 ∨ k = 20 ∨ k = 21 := by omega
  rcases this with rfl | rfl | rfl | rfl | rfl | rfl | rfl | rfl | rfl | rfl | rfl | rfl | rfl | rfl | rfl | rfl | rfl | rfl | rfl | rfl | rfl | rfl <;> (cases hk; exact ⟨_, rfl, rfl⟩)
theorem zl_re {cm : cSt} {mm : mSt} {o : Nat → Int64} {x y w v : Int32} {pc : Nat} {lc : zLc} {st : List Value} {k q : Nat} (h1 : ∀ z ∈ lc, ∀ v, z = some v → zfx v) (h2 : ∀ v ∈ st, zfx v)
    (hw : zJ p l e R s m args below meth c Q D cl A nL 0 ad0 pc lc st (hL cI cL (c_fg cm x y w v) mm o) true k q) : zJ p l e R s m args below meth c Q D cl A nL 0 ad0 pc lc st (hG cI cL cm mm o x y w v (w * v).toNatClampNeg) true k q := by
  intro ad H locs ls hS
  have hg := fun k z hk => zG_at (ad := ad) (cI := cI) (cL := cL) (c := cm) (m := mm) (o := o) (x := x) (y := y) (w := w) (v := v) k z hk
  have hst : st.map (za_v ad) = st.map (za_v (fun i => ad (zsg i))) := (List.map_congr_left (fun v hv => zfx_v (h2 v hv))).symm
  rw [hst]
  have back : ∀ k z, (za_w (fun i => ad (zsg i)) (hL cI cL (c_fg cm x y w v) mm o))[k]? = some z → k < 22 ∧ (za_w ad (hG cI cL cm mm o x y w v (w * v).toNatClampNeg))[zsg k]? = some z := by
    intro k z hk
    rw [za_get] at hk
    cases hz : (hL cI cL (c_fg cm x y w v) mm o)[k]? with
    | none => rw [hz] at hk; cases hk
    | some z0 =>
      rw [hz] at hk
      have hk : ((ad (zsg k), za_e (fun i => ad (zsg i)) z0) : Nat × va_E) = z := Option.some.inj hk
      obtain ⟨hl, z', e1, e2⟩ := hg k z0 hz
      refine ⟨hl, ?_⟩
      rw [za_at e1, ← hk, e2]
  refine hw (fun i => ad (zsg i)) H locs ls ⟨fun k z hk => hS.1 _ z (back k z hk).2, ⟨fun i j a b hi hj hab => ?_, fun k z hk => hS.2.1.2 _ z (back k z hk).2⟩, hS.2.2.1, ⟨hS.2.2.2.1.1, hS.2.2.2.1.2.1, fun i v hv => ?_⟩, (fun z => by cases z), ?_, Nat.zero_le _, ?_⟩
  · exact zsg_inj (back i a hi).1 (back j b hj).1 (hS.2.1.1 _ _ a b (back i a hi).2 (back j b hj).2 hab)
  · obtain ⟨q1, q2⟩ := hS.2.2.2.1.2.2 i v hv
    refine ⟨?_, q2⟩
    rw [zfx_v (h1 _ (List.mem_of_getElem? hv) v rfl)]
    exact q1
  · intro i hi
    rcases hi with hi | rfl
    · exact absurd hi (Nat.not_lt_zero i)
    · exact hS.2.2.2.2.2.1 1000 (Or.inr rfl)
  · intro z
    cases z
end ZLAW
