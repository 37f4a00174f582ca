/-! A walk as a predicate transformer over an abstract heap: cells by their place in a list, references as places; simp runs it. -/
abbrev zH : Type := List va_E
abbrev zO : Type := Option Value ⊕ Nat
abbrev zLc : Type := List (Option Value)
abbrev zT : Type := List Value → zH → (zO → zH → Prop) → Prop
/-- a callee: operands (with the receiver), the receiver's class, addresses stay, nothing is written, cells, slots, what it does -/
abbrev zEn : Type := Nat × Option Nat × Bool × Bool × Nat × Nat × zT
abbrev zRc : Type := Nat → zLc → List Value → zH → Bool → Nat → Nat → Prop
def za_v (ad : Nat → Nat) (v : Value) : Value := match v with
  | .ref i => .ref (ad i)
  | v => v
def za_e (ad : Nat → Nat) (x : va_E) : va_E := match x with
  | .inl a => .inl a
  | .inr o => .inr (o.1, o.2.map (za_v ad))
def za_w (ad : Nat → Nat) (h : zH) : va_W := h.mapIdx (fun i x => (ad i, za_e ad x))
def zb_v (n : Nat) (v : Value) : Prop := match v with
  | .ref i => i < n
  | _ => True
def zb_o (n : Nat) (o : Option Value) : Prop := match o with
  | some v => zb_v n v
  | none => True
def zb_e (n : Nat) (x : va_E) : Prop := match x with
  | .inl _ => True
  | .inr o => ∀ v ∈ o.2, zb_v n v
theorem za_get (ad : Nat → Nat) (h : zH) (i : Nat) : (za_w ad h)[i]? = (h[i]?).map (fun x => (ad i, za_e ad x)) := by
  unfold za_w; simp [List.getElem?_mapIdx]
theorem za_at {ad : Nat → Nat} {h : zH} {i : Nat} {x : va_E} (e : h[i]? = some x) : (za_w ad h)[i]? = some (ad i, za_e ad x) := by
  rw [za_get, e]; rfl
theorem za_set (ad : Nat → Nat) (h : zH) (i : Nat) (x : va_E) : (za_w ad h).set i (ad i, za_e ad x) = za_w ad (h.set i x) := by
  apply List.ext_getElem?
  intro j
  rw [List.getElem?_set, za_get, za_get, List.getElem?_set]
  by_cases hj : i = j
  · subst hj
    simp only [if_pos]
    by_cases hl : i < h.length
    · simp [za_w, hl]
    · simp [za_w, hl]
  · simp only [if_neg hj]
theorem za_v_b {ad ad' : Nat → Nat} {n : Nat} (hag : ∀ i, i < n → ad' i = ad i) {v : Value} (hb : zb_v n v) : za_v ad' v = za_v ad v := by
  cases v with
  | ref i => exact congrArg Value.ref (hag i hb)
  | _ => rfl
theorem za_s_b {ad ad' : Nat → Nat} {n : Nat} (hag : ∀ i, i < n → ad' i = ad i) {st : List Value} (hb : ∀ v ∈ st, zb_v n v) : st.map (za_v ad') = st.map (za_v ad) :=
  List.map_congr_left (fun v hv => za_v_b hag (hb v hv))
theorem za_e_b {ad ad' : Nat → Nat} {n : Nat} (hag : ∀ i, i < n → ad' i = ad i) {x : va_E} (hb : zb_e n x) : za_e ad' x = za_e ad x := by
  cases x with
  | inl a => rfl
  | inr o => exact congrArg Sum.inr (Prod.ext rfl (za_s_b hag hb))
theorem za_push {ad : Nat → Nat} {h : zH} {q : Nat} {x : va_E} (hb : ∀ y ∈ h, zb_e h.length y) (hx : zb_e h.length x) :
    za_w (fun i => if i = h.length then q else ad i) (h ++ [x]) = za_w ad h ++ [(q, za_e ad x)] := by
  have hag : ∀ i, i < h.length → (fun i => if i = h.length then q else ad i) i = ad i := fun i hi => if_neg (Nat.ne_of_lt hi)
  apply List.ext_getElem?
  intro j
  rw [za_get, List.getElem?_append, List.getElem?_append]
  have hl : (za_w ad h).length = h.length := by simp [za_w]
  rw [hl]
  by_cases hj : j < h.length
  · rw [if_pos hj, if_pos hj, za_get]
    cases e : h[j]? with
    | none => rfl
    | some y =>
      show some ((if j = h.length then q else ad j), za_e (fun i => if i = h.length then q else ad i) y) = some (ad j, za_e ad y)
      rw [if_neg (Nat.ne_of_lt hj), za_e_b hag (hb y (List.mem_of_getElem? e))]
  · rw [if_neg hj, if_neg hj]
    by_cases hz : j = h.length
    · subst hz
      simp only [Nat.sub_self, List.getElem?_cons_zero, Option.map_some, if_pos, if_true]
      rw [za_e_b hag hx]
    · have : 1 ≤ j - h.length := by omega
      obtain ⟨d, hd⟩ : ∃ d, j - h.length = d + 1 := ⟨j - h.length - 1, by omega⟩
      rw [hd]
      simp
-- the locals
def zl_has (ad : Nat → Nat) (ls : Array Slot) (nL : Nat) (lc : zLc) : Prop := (ls.size = nL ∧ lc.length = nL) ∧ lv_wf ls ∧ ∀ (i : Nat) (v : Value), lc[i]? = some (some v) → ls[i]? = some (.val (za_v ad v)) ∧ v.category = 1
def zl_l (ad : Nat → Nat) (lc : zLc) : List (Nat × Value) := (lc.mapIdx (fun i o => o.map (fun v => (i, za_v ad v)))).filterMap id
theorem zl_mem {ad : Nat → Nat} {lc : zLc} {q : Nat × Value} : q ∈ zl_l ad lc ↔ ∃ v, lc[q.1]? = some (some v) ∧ q.2 = za_v ad v := by
  unfold zl_l
  rw [List.mem_filterMap]
  constructor
  · rintro ⟨o, ho, he⟩
    have he' : o = some q := he
    subst he'
    obtain ⟨i, hi⟩ := List.getElem?_of_mem ho
    rw [List.getElem?_mapIdx] at hi
    cases e : lc[i]? with
    | none => rw [e] at hi; cases hi
    | some o =>
      rw [e] at hi
      have hi' : o.map (fun v => (i, za_v ad v)) = some q := Option.some.inj hi
      cases o with
      | none => cases hi'
      | some v =>
        have : (i, za_v ad v) = q := Option.some.inj hi'
        subst this
        exact ⟨v, e, rfl⟩
  · rintro ⟨v, h1, h2⟩
    refine ⟨some q, ?_, rfl⟩
    apply List.mem_of_getElem? (i := q.1)
    rw [List.getElem?_mapIdx, h1]
    show some (some (q.1, za_v ad v)) = some (some q)
    rw [← h2]
theorem za_cat (ad : Nat → Nat) (v : Value) : (za_v ad v).category = v.category := by cases v <;> rfl
theorem zl_lv {ad : Nat → Nat} {ls : Array Slot} {nL : Nat} {lc : zLc} (h : zl_has ad ls nL lc) : lv_has ls nL (zl_l ad lc) := by
  refine ⟨h.1.1, h.2.1, fun q hq => ?_⟩
  obtain ⟨v, h1, h2⟩ := zl_mem.mp hq
  rw [h2]
  exact (h.2.2 q.1 v h1).1
theorem zl_at {ad : Nat → Nat} {ls : Array Slot} {nL : Nat} {lc : zLc} (h : zl_has ad ls nL lc) {i : Nat} {v : Value} (e : lc[i]? = some (some v)) : ls[i]? = some (.val (za_v ad v)) := (h.2.2 i v e).1
theorem zl_st {ad : Nat → Nat} {ls ls' : Array Slot} {nL : Nat} {lc : zLc} {i : Nat} {w : Value} {o : Option Value} (h : zl_has ad ls nL lc)
    (h' : lv_has ls' nL ((i, w) :: (zl_l ad lc).filter (fun q => !(q.1 == i) && !(q.1 + 1 == i && q.2.category == 2)))) (ho : ∀ v, o = some v → w = za_v ad v ∧ v.category = 1) : zl_has ad ls' nL (lc.set i o) := by
  refine ⟨⟨h'.1, by rw [List.length_set]; exact h.1.2⟩, h'.2.1, fun j v hj => ?_⟩
  rw [List.getElem?_set] at hj
  by_cases hij : i = j
  · subst hij
    rw [if_pos rfl] at hj
    by_cases hl : i < lc.length
    · rw [if_pos hl] at hj
      obtain ⟨h1, h2⟩ := ho v (Option.some.inj hj)
      refine ⟨?_, h2⟩
      rw [← h1]
      exact h'.2.2 (i, w) List.mem_cons_self
    · rw [if_neg hl] at hj; cases hj
  · rw [if_neg hij] at hj
    have hc := (h.2.2 j v hj).2
    refine ⟨?_, hc⟩
    refine h'.2.2 (j, za_v ad v) (List.mem_cons_of_mem _ (List.mem_filter.mpr ⟨zl_mem.mpr ⟨v, hj, rfl⟩, ?_⟩))
    have : ¬ j = i := fun q => hij q.symm
    simp [this, za_cat, hc]
theorem zl_b {ad ad' : Nat → Nat} {n : Nat} (hag : ∀ i, i < n → ad' i = ad i) {ls : Array Slot} {nL : Nat} {lc : zLc} (h : zl_has ad ls nL lc) (hb : ∀ o ∈ lc, zb_o n o) : zl_has ad' ls nL lc := by
  refine ⟨h.1, h.2.1, fun i v e => ?_⟩
  obtain ⟨h1, h2⟩ := h.2.2 i v e
  refine ⟨?_, h2⟩
  rw [za_v_b hag (hb (some v) (List.mem_of_getElem? e))]
  exact h1
-- what an instruction takes
def zi1 (st : List Value) (f : Int32 → List Value → Prop) : Prop := match st with
  | .int x :: r => f x r
  | _ => False
def zi2 (st : List Value) (f : Int32 → Int32 → List Value → Prop) : Prop := match st with
  | .int y :: .int x :: r => f x y r
  | _ => False
def zr1 (st : List Value) (f : Nat → List Value → Prop) : Prop := match st with
  | .ref i :: r => f i r
  | _ => False
def zri (st : List Value) (f : Nat → Int32 → List Value → Prop) : Prop := match st with
  | .int j :: .ref i :: r => f i j r
  | _ => False
def zrii (st : List Value) (f : Nat → Int32 → Int32 → List Value → Prop) : Prop := match st with
  | .int x :: .int j :: .ref i :: r => f i j x r
  | _ => False
def zril (st : List Value) (f : Nat → Int32 → Int64 → List Value → Prop) : Prop := match st with
  | .long x :: .int j :: .ref i :: r => f i j x r
  | _ => False
def zvr (st : List Value) (f : Nat → Value → List Value → Prop) : Prop := match st with
  | v :: .ref i :: r => f i v r
  | _ => False
def zl2 (st : List Value) (f : Int64 → Int64 → List Value → Prop) : Prop := match st with
  | .long y :: .long x :: r => f x y r
  | _ => False
def zv1 (st : List Value) (f : Value → List Value → Prop) : Prop := match st with
  | v :: r => v.category = 1 ∧ f v r
  | _ => False
def zv2 (st : List Value) (f : Value → Value → List Value → Prop) : Prop := match st with
  | v :: w :: r => v.category = 1 ∧ w.category = 1 ∧ f v w r
  | _ => False
def zv3 (st : List Value) (f : Value → Value → Value → List Value → Prop) : Prop := match st with
  | v :: w :: u :: r => v.category = 1 ∧ w.category = 1 ∧ u.category = 1 ∧ f v w u r
  | _ => False
def zli (lc : zLc) (i : Nat) (f : Int32 → Prop) : Prop := match lc[i]? with
  | some (some (.int x)) => f x
  | _ => False
def zlr (lc : zLc) (i : Nat) (f : Nat → Prop) : Prop := match lc[i]? with
  | some (some (.ref x)) => f x
  | _ => False
def zob (h : zH) (i : Nat) (ci : Nat) (f : List Value → Prop) : Prop := match h[i]? with
  | some (.inr (c, fs)) => c = ci ∧ f fs
  | _ => False
def zai (h : zH) (i : Nat) (f : ClassId → Nat → (Nat → Int32) → Prop) : Prop := match h[i]? with
  | some (.inl (cA, n, .inl g)) => f cA n g
  | _ => False
def zal (h : zH) (i : Nat) (f : ClassId → Nat → (Nat → Int64) → Prop) : Prop := match h[i]? with
  | some (.inl (cA, n, .inr (.inl g))) => f cA n g
  | _ => False
def zfv (fs : List Value) (k : Nat) (f : Value → Prop) : Prop := match fs[k]? with
  | some v => f v
  | _ => False
def zgo (r : Nat → Prop) (pc : Nat) (off : Int) : Prop := 0 ≤ (pc : Int) + off ∧ r ((pc : Int) + off).toNat
def zswT (x : Int32) (r : Nat → Prop) (pc : Nat) (d : Int) : Int → List Int → Prop
  | _, [] => zgo r pc d
  | lo, o :: l => (x.toInt = lo → zgo r pc o) ∧ (¬ x.toInt = lo → zswT x r pc d (lo + 1) l)
def zcc (c : ClassFile.Cond) (x y : Int32) : Prop := match c with
  | .eq => x = y
  | .ne => ¬ x = y
  | .lt => x < y
  | .ge => y ≤ x
  | .gt => y < x
  | .le => x ≤ y
def zrv (rc : Option Nat) (a : List Value) (h : zH) : Prop := match rc with
  | none => True
  | some ci => match a with
    | .ref i :: _ => zob h i ci (fun _ => True)
    | _ => False
def zldj (d : Except DecodeError (Instr × Nat)) (f : Nat → Prop) : Prop := match d with
  | .ok (.ldc j, 2) => f j
  | _ => False
theorem zldj_s {d : Except DecodeError (Instr × Nat)} {f : Nat → Prop} (h : zldj d f) : ∃ j, d = .ok (.ldc j, 2) ∧ f j := by
  unfold zldj at h
  split at h
  · exact ⟨_, rfl, h⟩
  · exact h.elim
section ZW
variable (cc : ByteArray) (G : Nat → Option (Nat × Nat × FieldType × Bool)) (E : Nat → Nat → Option zEn) (X : Nat → Option (Nat × Nat)) (SL : Nat → Bool) (NW : Nat → Option (Nat × Nat × List Value)) (CS : Nat → Option Int32) (HD : Nat → Nat → Option Nat)
variable (sc : Option (Nat × (Nat → Int32))) (cI cL : ClassId) (RC RS : Nat) (ctor : Bool) (KK : zO → zH → Bool → Nat → Nat → Prop)
def zcat (rec : zRc) (hp : Option Nat) (lc : zLc) (h : zH) (k q : Nat) : Prop := match hp with
  | none => False
  | some hp => match decode cc hp with
    | .ok (.astore_n j, 1) => j.val < lc.length ∧ rec (hp + 1) (lc.set j.val none) [] h true k q
    | .ok (.astore j, 2) => j < lc.length ∧ rec (hp + 2) (lc.set j none) [] h true k q
    | _ => False
def zcal (rec : zRc) (en : Option zEn) (pc : Nat) (lc : zLc) (st : List Value) (h : zH) (wr : Bool) (k q : Nat) : Prop := match en with
  | none => False
  | some (na, rc, fx, ro, mc, ms, T) =>
    na ≤ st.length ∧ zrv rc (st.take na).reverse h ∧ (fx = true ∨ ((∀ o ∈ lc, zb_o h.length o) ∧ ∀ v ∈ st.drop na, zb_v h.length v)) ∧ k + mc ≤ RC ∧ q + ms ≤ RS ∧ ((st.drop na).map fun v => v.category).sum ≤ 8 ∧
    T (st.take na).reverse h (fun o h' => (fx = true → h'.length = h.length) ∧ match o with
      | .inl v => rec (pc + 3) lc (v.toList ++ st.drop na) h' (wr || !ro) (k + mc) (q + ms)
      | .inr ci => zcat cc rec (HD pc ci) lc h' (k + mc) (q + ms))
def zexc (X2 : Nat × Nat) (pc : Nat) (st : List Value) (h : zH) (wr : Bool) (k q : Nat) : Prop :=
  wr = false ∧ (st.map fun v => v.category).sum ≤ 8 ∧ k + 1 ≤ RC ∧ q + 6 ≤ RS ∧ decode cc (pc + 3) = .ok (.dup, 1) ∧ zldj (decode cc (pc + 4)) (fun j => SL j = true) ∧ decode cc (pc + 6) = .ok (.invokespecial X2.2, 3) ∧ decode cc (pc + 9) = .ok (.athrow, 1) ∧ KK (.inr X2.1) h wr k q
def znew (rec : zRc) (nw : Option (Nat × Nat × List Value)) (pc : Nat) (lc : zLc) (st : List Value) (h : zH) (k q : Nat) : Prop := match nw with
  | none => False
  | some (ci, n, fs) => k + 1 ≤ RC ∧ q + n ≤ RS ∧ (∀ o ∈ lc, zb_o h.length o) ∧ (∀ v ∈ st, zb_v h.length v) ∧ (∀ y ∈ h, zb_e h.length y) ∧ (∀ v ∈ fs, zb_v h.length v) ∧ h.length < 1000 ∧ rec (pc + 3) lc (.ref h.length :: st) (h ++ [.inr (ci, fs)]) true (k + 1) (q + n)
def zput (rec : zRc) (g : Option (Nat × Nat × FieldType × Bool)) (pc : Nat) (lc : zLc) (st : List Value) (h : zH) (k q : Nat) : Prop := match g with
  | none => False
  | some (ci, kf, ty, fin) => zvr st (fun i v r => zob h i ci (fun fs => (fin = true → ctor = true) ∧ narrow ty v = v ∧ fits ty v = true ∧ kf < fs.length ∧ rec (pc + 3) lc r (h.set i (.inr (ci, fs.set kf v))) true k q))
def zgetf (rec : zRc) (g : Option (Nat × Nat × FieldType × Bool)) (pc : Nat) (lc : zLc) (st : List Value) (h : zH) (wr : Bool) (k q : Nat) : Prop := match g with
  | none => False
  | some (ci, kf, _, _) => zr1 st (fun i r => zob h i ci (fun fs => zfv fs kf (fun v => rec (pc + 3) lc (v :: r) h wr k q)))
def zial (rec : zRc) (pc : Nat) (lc : zLc) (st : List Value) (h : zH) (wr : Bool) (k q : Nat) : Prop := zri st (fun i j r => if i = 1000 then (match sc with
    | none => False
    | some (L, xs) => vp_in j L ∧ rec (pc + 1) lc (.int (xs j.toNatClampNeg) :: r) h wr k q) else zai h i (fun cA n g => cA = cI ∧ vp_in j n ∧ rec (pc + 1) lc (.int (g j.toNatClampNeg) :: r) h wr k q))
def zlen (rec : zRc) (pc : Nat) (lc : zLc) (st : List Value) (h : zH) (wr : Bool) (k q : Nat) : Prop := zr1 st (fun i r => if i = 1000 then (match sc with
    | none => False
    | some (L, _) => rec (pc + 1) lc (.int (Int32.ofNat L) :: r) h wr k q) else zai h i (fun cA n _ => cA = cI ∧ rec (pc + 1) lc (.int (Int32.ofNat n) :: r) h wr k q))
def zwI (rec : zRc) (d : Except DecodeError (Instr × Nat)) (pc : Nat) (lc : zLc) (st : List Value) (h : zH) (wr : Bool) (k q : Nat) : Prop := match d with
  | .ok (.iconst n, 1) => rec (pc + 1) lc (.int (Int32.ofInt n) :: st) h wr k q
  | .ok (.bipush n, 2) => rec (pc + 2) lc (.int (Int8.ofInt n).toInt32 :: st) h wr k q
  | .ok (.sipush n, 3) => rec (pc + 3) lc (.int (Int16.ofInt n).toInt32 :: st) h wr k q
  | .ok (.ldc i, 2) => (match CS i with
    | some v => rec (pc + 2) lc (.int v :: st) h wr k q
    | none => False)
  | .ok (.ldc_w i, 3) => (match CS i with
    | some v => rec (pc + 3) lc (.int v :: st) h wr k q
    | none => False)
  | .ok (.aconst_null, 1) => rec (pc + 1) lc (.null :: st) h wr k q
  | .ok (.iload_n i, 1) => zli lc i.val (fun x => rec (pc + 1) lc (.int x :: st) h wr k q)
  | .ok (.iload i, 2) => zli lc i (fun x => rec (pc + 2) lc (.int x :: st) h wr k q)
  | .ok (.aload_n i, 1) => zlr lc i.val (fun x => rec (pc + 1) lc (.ref x :: st) h wr k q)
  | .ok (.aload i, 2) => zlr lc i (fun x => rec (pc + 2) lc (.ref x :: st) h wr k q)
  | .ok (.istore_n i, 1) => i.val < lc.length ∧ zi1 st (fun x r => rec (pc + 1) (lc.set i.val (some (.int x))) r h wr k q)
  | .ok (.istore i, 2) => i < lc.length ∧ zi1 st (fun x r => rec (pc + 2) (lc.set i (some (.int x))) r h wr k q)
  | .ok (.astore_n i, 1) => i.val < lc.length ∧ zr1 st (fun x r => rec (pc + 1) (lc.set i.val (some (.ref x))) r h wr k q)
  | .ok (.astore i, 2) => i < lc.length ∧ zr1 st (fun x r => rec (pc + 2) (lc.set i (some (.ref x))) r h wr k q)
  | .ok (.iinc i n, 3) => i < lc.length ∧ zli lc i (fun x => rec (pc + 3) (lc.set i (some (.int (x + Int32.ofInt n)))) st h wr k q)
  | .ok (.iadd, 1) => zi2 st (fun x y r => rec (pc + 1) lc (.int (x + y) :: r) h wr k q)
  | .ok (.isub, 1) => zi2 st (fun x y r => rec (pc + 1) lc (.int (x - y) :: r) h wr k q)
  | .ok (.imul, 1) => zi2 st (fun x y r => rec (pc + 1) lc (.int (x * y) :: r) h wr k q)
  | .ok (.idiv, 1) => zi2 st (fun x y r => ¬ y = 0 ∧ rec (pc + 1) lc (.int (x / y) :: r) h wr k q)
  | .ok (.iand, 1) => zi2 st (fun x y r => rec (pc + 1) lc (.int (x &&& y) :: r) h wr k q)
  | .ok (.ior, 1) => zi2 st (fun x y r => rec (pc + 1) lc (.int (x ||| y) :: r) h wr k q)
  | .ok (.ixor, 1) => zi2 st (fun x y r => rec (pc + 1) lc (.int (x ^^^ y) :: r) h wr k q)
  | .ok (.ishl, 1) => zi2 st (fun x y r => rec (pc + 1) lc (.int (x <<< (y &&& 31)) :: r) h wr k q)
  | .ok (.ishr, 1) => zi2 st (fun x y r => rec (pc + 1) lc (.int (x >>> (y &&& 31)) :: r) h wr k q)
  | .ok (.iushr, 1) => zi2 st (fun x y r => rec (pc + 1) lc (.int (x.toUInt32 >>> (y.toUInt32 &&& Int32.toUInt32 31)).toInt32 :: r) h wr k q)
  | .ok (.i2l, 1) => zi1 st (fun x r => rec (pc + 1) lc (.long x.toInt64 :: r) h wr k q)
  | .ok (.lcmp, 1) => zl2 st (fun x y r => rec (pc + 1) lc (.int (lg_cmp x y) :: r) h wr k q)
  | .ok (.dup, 1) => zv1 st (fun v r => rec (pc + 1) lc (v :: v :: r) h wr k q)
  | .ok (.pop, 1) => zv1 st (fun _ r => rec (pc + 1) lc r h wr k q)
  | .ok (.dup_x1, 1) => zv2 st (fun v w r => rec (pc + 1) lc (v :: w :: v :: r) h wr k q)
  | .ok (.dup2, 1) => zv2 st (fun v w r => rec (pc + 1) lc (v :: w :: v :: w :: r) h wr k q)
  | .ok (.dup_x2, 1) => zv3 st (fun v w u r => rec (pc + 1) lc (v :: w :: u :: v :: r) h wr k q)
  | .ok (.goto o, 3) => zgo (fun t => rec t lc st h wr k q) pc o
  | .ok (.ifCond c o, 3) => 0 ≤ (pc : Int) + o ∧ zi1 st (fun x r => (zcc c x 0 → rec ((pc : Int) + o).toNat lc r h wr k q) ∧ (¬ zcc c x 0 → rec (pc + 3) lc r h wr k q))
  | .ok (.if_icmp c o, 3) => 0 ≤ (pc : Int) + o ∧ zi2 st (fun x y r => (zcc c x y → rec ((pc : Int) + o).toNat lc r h wr k q) ∧ (¬ zcc c x y → rec (pc + 3) lc r h wr k q))
  | .ok (.tableswitch d lo hi offs, _) => hi + 1 = lo + offs.toList.length ∧ zi1 st (fun x r => zswT x (fun t => rec t lc r h wr k q) pc d lo offs.toList)
  | .ok (.getfield i, 3) => zgetf rec (G i) pc lc st h wr k q
  | .ok (.putfield i, 3) => zput ctor rec (G i) pc lc st h k q
  | .ok (.iaload, 1) => zial sc cI rec pc lc st h wr k q
  | .ok (.iastore, 1) => zrii st (fun i j x r => zai h i (fun cA n g => cA = cI ∧ vp_in j n ∧ rec (pc + 1) lc r (h.set i (.inl (cI, n, .inl (upd g j.toNatClampNeg x)))) true k q))
  | .ok (.laload, 1) => zri st (fun i j r => zal h i (fun cA n g => cA = cL ∧ vp_in j n ∧ rec (pc + 1) lc (.long (g j.toNatClampNeg) :: r) h wr k q))
  | .ok (.lastore, 1) => zril st (fun i j x r => zal h i (fun cA n g => cA = cL ∧ vp_in j n ∧ rec (pc + 1) lc r (h.set i (.inl (cL, n, .inr (.inl (vp_updL g j.toNatClampNeg x))))) true k q))
  | .ok (.arraylength, 1) => zlen sc cI rec pc lc st h wr k q
  | .ok (.invokestatic i, 3) => zcal cc HD RC RS rec (E 0 i) pc lc st h wr k q
  | .ok (.invokevirtual i, 3) => zcal cc HD RC RS rec (E 1 i) pc lc st h wr k q
  | .ok (.invokespecial i, 3) => zcal cc HD RC RS rec (E 2 i) pc lc st h wr k q
  | .ok (.new i, 3) => (match X i with
    | some x2 => zexc cc SL RC RS KK x2 pc st h wr k q
    | none => znew RC RS rec (NW i) pc lc st h k q)
  | .ok (.newarray t, 2) => t = .int ∧ zi1 st (fun x r => ¬ x < 0 ∧ x.toNatClampNeg * 4 ≤ 536870912 ∧ k + 1 ≤ RC ∧ q + x.toNatClampNeg ≤ RS ∧ (∀ o ∈ lc, zb_o h.length o) ∧ (∀ v ∈ r, zb_v h.length v) ∧ (∀ y ∈ h, zb_e h.length y) ∧ h.length < 1000 ∧ rec (pc + 2) lc (.ref h.length :: r) (h ++ [.inl (cI, x.toNatClampNeg, .inl (fun _ => 0))]) true (k + 1) (q + x.toNatClampNeg))
  | .ok (.ireturn, 1) => zi1 st (fun x r => r = [] ∧ KK (.inl (some (.int x))) h wr k q)
  | .ok (.areturn, 1) => zr1 st (fun x r => r = [] ∧ KK (.inl (some (.ref x))) h wr k q)
  | .ok (.return_, 1) => st = [] ∧ KK (.inl none) h wr k q
  | _ => False
/-- J: where the walk stops: a loop's head and what must hold there -/
def zw (J : Nat → Option (zLc → List Value → zH → Bool → Nat → Nat → Prop)) : Nat → zRc
  | 0 => fun _ _ _ _ _ _ _ => False
  | n + 1 => fun pc lc st h wr k q => match J pc with
    | some I => I lc st h wr k q
    | none => zwI cc G E X SL NW CS HD sc cI cL RC RS ctor KK (zw J n) (decode cc pc) pc lc st h wr k q
end ZW
/-- a judgement that is closed under steps -/
def zCl (cc : ByteArray) (G : Nat → Option (Nat × Nat × FieldType × Bool)) (E : Nat → Nat → Option zEn) (X : Nat → Option (Nat × Nat)) (SL : Nat → Bool) (NW : Nat → Option (Nat × Nat × List Value)) (CS : Nat → Option Int32) (HD : Nat → Nat → Option Nat) (sc : Option (Nat × (Nat → Int32))) (cI cL : ClassId) (RC RS : Nat) (ctor : Bool) (KK : zO → zH → Bool → Nat → Nat → Prop) (Jd : zRc) : Prop :=
  ∀ (rec : zRc), (∀ pc lc st h wr k q, rec pc lc st h wr k q → Jd pc lc st h wr k q) → ∀ pc lc st h wr k q, zwI cc G E X SL NW CS HD sc cI cL RC RS ctor KK rec (decode cc pc) pc lc st h wr k q → Jd pc lc st h wr k q
theorem zw_sound {cc : ByteArray} {G : Nat → Option (Nat × Nat × FieldType × Bool)} {E : Nat → Nat → Option zEn} {X : Nat → Option (Nat × Nat)} {SL : Nat → Bool} {NW : Nat → Option (Nat × Nat × List Value)} {CS : Nat → Option Int32} {HD : Nat → Nat → Option Nat}
    {sc : Option (Nat × (Nat → Int32))} {cI cL : ClassId} {RC RS : Nat} {ctor : Bool} {KK : zO → zH → Bool → Nat → Nat → Prop} {J : Nat → Option (zLc → List Value → zH → Bool → Nat → Nat → Prop)} {Jd : zRc}
    (hst : zCl cc G E X SL NW CS HD sc cI cL RC RS ctor KK Jd) (hJ : ∀ pc I, J pc = some I → ∀ lc st h wr k q, I lc st h wr k q → Jd pc lc st h wr k q) :
    ∀ (n pc : Nat) (lc : zLc) (st : List Value) (h : zH) (wr : Bool) (k q : Nat), zw cc G E X SL NW CS HD sc cI cL RC RS ctor KK J n pc lc st h wr k q → Jd pc lc st h wr k q := by
  intro n
  induction n with
  | zero => intro pc lc st h wr k q hw; exact hw.elim
  | succ n ih =>
    intro pc lc st h wr k q hw
    unfold zw at hw
    cases hj : J pc with
    | some I => rw [hj] at hw; exact hJ pc I hj lc st h wr k q hw
    | none => rw [hj] at hw; exact hst _ ih pc lc st h wr k q hw
