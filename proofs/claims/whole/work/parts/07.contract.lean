theorem z_throw {p : Program} {l : Launch} {e : Env} {R : Room} {s : State} {m : MethodId} {args : Array Value} {below : List Frame} {meth : Method} {c : Code} {cc : ByteArray} {D : va_G} {cl : List vw_C} {A : Nat → Prop} {tys : List (ClassId × FieldType)} {own : String} {Ts : List Cond} {i ci ic j k q mc ms pc : Nat} {ls : Array Slot} {st : List Value} {Qc : Array Value → State → Outcome → State → Prop} {free : Addr → Prop}
    (hX : zXok Ts cl own i ci ic) (hSj : zSok own j) (hx : p.tables.exec = Jvm.exec) (hb : c.code = cc) (hown : s.vm.findClass own = some m.cls) (hts : ∀ w ∈ Ts, w.before args s = true) (hK : va_K D cl tys s) (hEX : zEX A s) (hl : l.stackTraces = false)
    (hem : c.exceptionTable.toList = []) (hsz : ls.size = c.maxLocals) (hlocks : meth.locks = false) (hRf : 6 ≤ R.frames) (hRl : (st.map fun v => v.category).sum + 90 ≤ R.locals) (hk : k + 1 ≤ R.cells) (hq : q + 6 ≤ R.slots) (hmc : R.cells ≤ mc) (hms : R.slots ≤ ms)
    (d0 : decode cc pc = .ok (.new i, 3)) (d3 : decode cc (pc + 3) = .ok (.dup, 1)) (d4 : decode cc (pc + 4) = .ok (.ldc j, 2)) (d6 : decode cc (pc + 6) = .ok (.invokespecial ic, 3)) (d9 : decode cc (pc + 9) = .ok (.athrow, 1))
    (hQ : ∀ (a : Addr) (t : State), va_at D cl (a, .inr (ci, [])) t.heap → (∀ z : Nat, z < s.heap.size → t.heap[z]? = s.heap[z]?) → s.heap.size ≤ t.heap.size → Qc args s (.threw a) t) :
    W p l e R s m args below meth c s.heap [] k q (zMQ below Qc args s mc ms free) (F0 m pc ls st) := by
  obtain ⟨cls, names, T0, h1, h2, h3, h4, h5, h6, h7, h8⟩ := hX
  obtain ⟨tx, htx⟩ := hSj
  obtain ⟨sa, hsa⟩ := hEX.2.2.1 _ htx
  have hr := vx_throwS (R := R) (Qc := fun _ _ _ _ => False) (XC := fun E st t => E = cls ∧ st.heap.size ≤ t.heap.size ∧ ∀ z : Nat, z < st.heap.size → t.heap[z]? = st.heap[z]?) (free := free) (mc := mc) (ms := ms) (below := below) (cells := k) (slots := q) (locs := []) (H := s.heap) (ls := ls) (rest := st) (e := e)
    hx hb hl hown h2 h3 (hts _ h5) (hts _ h6) hsa (fun w hw => hts w (h7 w hw)) h8 hEX.1 hEX.2.1 va_S.rf hsz d0 d3 d4 d6 d9 (fun x hx => by rw [hem] at hx; cases hx) (by omega) (by omega) hk hq hlocks (fun t _ g1 g2 => ⟨rfl, g1, g2⟩) (fun z hz => by cases hz) (by omega) (by omega)
  intro T hT X
  obtain ⟨t, g1, o, g2, g3, g4⟩ := hr T hT X
  refine ⟨t, g1, o, g2, g3, ?_⟩
  rcases g4 with ⟨g4, -⟩ | ⟨a, rfl, E, ce, L, ⟨rfl, g5, g6⟩, g7, g8, g9, g10, g11, g12⟩
  · exact g4.elim
  · have hcl := (hK.1 ci _ h1).2.1
    refine ⟨hQ a t ⟨_, h1, ce, g7, Option.some.inj (g9.symm.trans hcl), g8, fun k hk => absurd hk (Nat.not_lt_zero k)⟩ g6 g5, L, ⟨g10, g11⟩, g12⟩
-- contracts
def zQ (D : va_G) (cl : List vw_C) (K : zO → zH → Prop) (ad0 : Nat → Nat) (h : zH) (sz : Nat) (ro : Bool) : Array Value → State → Outcome → State → Prop := fun _ st o t =>
  (∃ (ad' : Nat → Nat) (out : zO) (h' : zH), K out h' ∧ zag h.length ad' ad0 ∧ (h'.length = h.length → ad' = ad0) ∧ h.length ≤ h'.length ∧ va_P D cl (za_w ad' h') t.heap ∧ va_D (va_A (za_w ad0 h) sz) (za_w ad' h') ∧
    (match out with
      | .inl v => o = .returned (v.map (za_v ad')) ∧ (ro = true → t.heap = st.heap)
      | .inr ci => ∃ a, o = .threw a ∧ va_at D cl (a, .inr (ci, [])) t.heap)) ∧ va_F (va_A (za_w ad0 h) sz) st t
def zPc (D : va_G) (cl : List vw_C) (cI cL : ClassId) (as : List Value) (h : zH) (ad0 : Nat → Nat) (sz : Nat) : Array Value → State → Prop :=
  va_Pc (as.map (za_v ad0)) (fun U => U.heap.size = sz ∧ va_P D cl (za_w ad0 h) U.heap ∧ va_K D cl [(cI, .int), (cL, .long)] U ∧ va_D (fun _ => True) (za_w ad0 h) ∧ zEX (va_A (za_w ad0 h) sz) U)
/-- the contract of a method: what T says, at any heap -/
def zC (l : Launch) (y : MethodName) (ws : List Cond) (rm : Room) (cl : List vw_C) (ro : Bool) (mc ms : Nat) (T : ClassId → ClassId → zT) : Prop :=
  ∀ (D : va_G) (cI cL : ClassId) (as : List Value) (h : zH) (K : zO → zH → Prop) (ad0 : Nat → Nat) (sz : Nat), T cI cL as h K →
    zMet l y ws rm (zPc D cl cI cL as h ad0 sz) (zQ D cl K ad0 h sz ro) mc ms (fun q => ro = false ∧ va_A (za_w ad0 h) sz q)
theorem zPc_blind {D : va_G} {cl : List vw_C} {cI cL : ClassId} {as : List Value} {h : zH} {ad0 : Nat → Nat} {sz : Nat} : FrameBlind (zPc D cl cI cL as h ad0 sz) := by
  intro a U g mk q
  obtain ⟨q0, q1, qP, qK, qD, qE⟩ := q
  exact ⟨q0, q1, qP, va_K.moved (u := U) (U := U.calling g mk a) (Vm.Alike.refl U.vm) qK, qD, zEX_f qE⟩
section ZROW
variable {p : Program} {l : Launch} {e : Env} {R : Room} {s : State} {m : MethodId} {args : Array Value} {below : List Frame} {meth : Method} {c : Code}
variable {cc : ByteArray} {D : va_G} {cl : List vw_C} {A : Nat → Prop} {nL : Nat} {own : String} {cI cL : ClassId} {Ts : List Cond}
/-- behind the linking of any invoking instruction -/
theorem z_row {y : MethodName} {ws : List Cond} {rm : Room} {ro : Bool} {mc ms maxL : Nat} {T : ClassId → ClassId → zT} (hC : zC l y ws rm cl ro mc ms T) (hx : p.tables.exec = Jvm.exec) (hb : c.code = cc) (hml : c.maxLocals = nL) (hK : va_K D cl [(cI, .int), (cL, .long)] s) (hA : ∀ q, s.heap.size ≤ q → A q) (hEX : zEX A s)
    (hws : ∀ w ∈ ws, ∀ (a' : Array Value) (U : State), s.WarmedH U.vm → w.before a' U = true) (hini : ∀ (a' : Array Value) (U : State), s.WarmedH U.vm → (Cond.initialized y.cls).before a' U = true)
    (hfr : rm.frames + 1 ≤ R.frames) (hlo : 8 + (maxL + 11) + rm.locals ≤ R.locals) (hrc : rm.cells = mc) (hrs : rm.slots = ms)
    {mk : MethodId} (hn : s.methodNamed? y = some mk) {methY : Method} {cY : Code} (hmY : s.vm.method? mk = some methY) (hcY : methY.code = some cY) (hlY : cY.maxLocals = maxL)
    {Q : State → Prop} {pc : Nat} {ls : Array Slot} {as rest : List Value} {h : zH} {ad : Nat → Nat} {H : Heap} {locs : List Loc} {k q : Nat} {K' : zO → zH → Prop} {ig : Instr}
    (hd : decode cc pc = .ok (ig, 3)) (hsz : ls.size = nL) (hcat : (rest.map fun v => v.category).sum ≤ 8) (hk : k + mc ≤ R.cells) (hq : q + ms ≤ R.slots) (hP : va_P D cl (za_w ad h) H) (hD : va_D A (za_w ad h)) (hS : va_S A s.heap H locs) (hT : T cI cL as h K')
    (hcont : ∀ (o : zO) (h' : zH) (ad' : Nat → Nat) (H1 : Heap) (locs1 : List Loc), K' o h' → zag h.length ad' ad → (h'.length = h.length → ad' = ad) → h.length ≤ h'.length → va_P D cl (za_w ad' h') H1 → va_D A (za_w ad' h') → va_S A s.heap H1 locs1 →
      (∀ v, o = .inl v → ro = true → H1 = H ∧ locs1 = locs) → zAft p l e R s m args below meth c D cl H1 locs1 (k + mc) (q + ms) Q pc ls (rest.map (za_v ad)) ad' o)
    (T0 : State) (hT0 : T0.heap = H) (X : Stand p l e R s m args below meth c T0 locs k q) (vm₁ : Vm) (X₁ : Stand p l e R s m args below meth c (T0.setVm vm₁) locs k q) (g0 : JFrame)
    (hstep : ∀ target, (∀ acts, Steps p.tables e below (doInvoke e ((T0.setVm vm₁).setTop (F0 m pc ls (rest.map (za_v ad)))) acts mk (as.map (za_v ad)).toArray).1 target) → Steps p.tables e below (T0.setTop g0) target) :
    ∃ t, Steps p.tables e below (T0.setTop g0) t ∧ Q t := by
  have hfree : ∀ z, va_A (za_w ad h) H.size z → A z := by
    intro z hz
    rcases hz with ⟨i, x, hi⟩ | hz
    · exact hD.2 i _ hi
    · exact hA z (Nat.le_trans hS.1 hz)
  have hW1 : s.WarmedH (T0.setVm vm₁).vm := X₁.warmed
  have hcatA : ((rest.map (za_v ad)).map fun v => v.category).sum ≤ 8 := by
    rw [List.map_map]
    have : (rest.map ((fun v => v.category) ∘ za_v ad)) = rest.map (fun v => v.category) := List.map_congr_left (fun v _ => za_cat ad v)
    rw [this]; exact hcat
  obtain ⟨o, t, U', L, hQ, hL, X', eh, ev, hout⟩ := z_back (maxL := maxL) (hC D cI cL as h K' ad H.size hT) X₁ (g := F0 m pc ls (rest.map (za_v ad))) rfl (by show ls.size = _; rw [hml]; exact hsz) (ig := ig) (len := 3) (by rw [hb]; exact hd) (by show 2 * 0 + ((rest.map (za_v ad)).map fun v => v.category).sum ≤ 8; omega)
    (X₁.named hn) (by rw [hW1.alike.method?]; exact hmY) hcY hlY (a := (as.map (za_v ad)).toArray) (hini _ _ hW1) (fun w hw => hws w hw _ _ hW1) hfr hlo hrc hrs hk hq
    (zPc_blind _ _ _ _ ⟨rfl, by show T0.heap.size = _; rw [hT0], by show va_P D cl _ T0.heap; rw [hT0]; exact hP, va_K.moved hW1.alike hK, hD.weaken (fun _ _ _ _ => trivial), zEX_t hEX hfree (fun z h1 h2 => by show T0.heap[z]? = _; rw [hT0]; exact hS.2.1 z h1 h2) hW1⟩)
  obtain ⟨⟨ad', out, h', hK', hag, hfx, hlen, hP1, hD1, hm⟩, hF1, hF2⟩ := hQ
  have hF1 : H.size ≤ t.heap.size := by have := hF1; rw [show ((T0.setVm vm₁).calling (F0 m pc ls (rest.map (za_v ad))) mk (as.map (za_v ad)).toArray).heap = H from hT0] at this; exact this
  have hF2 : ∀ z : Nat, z < H.size → ¬ va_A (za_w ad h) H.size z → t.heap[z]? = H[z]? := by
    intro z h1 h2
    have := hF2 z (by rw [show ((T0.setVm vm₁).calling (F0 m pc ls (rest.map (za_v ad))) mk (as.map (za_v ad)).toArray).heap = H from hT0]; exact h1) h2
    rw [show ((T0.setVm vm₁).calling (F0 m pc ls (rest.map (za_v ad))) mk (as.map (za_v ad)).toArray).heap = H from hT0] at this
    exact this
  have hS1 : va_S A s.heap U'.heap (locs ++ L) := by
    refine ⟨Nat.le_trans hS.1 (by rw [eh]; exact hF1), fun z h1 h2 => ?_, fun z hz => ?_⟩
    · rw [eh, hF2 z (Nat.lt_of_lt_of_le h1 hS.1) (fun y => h2 (hfree z y))]
      exact hS.2.1 z h1 h2
    · rcases List.mem_append.mp hz with hz | hz
      · exact hS.2.2 z hz
      · exact hfree _ (hL z hz).2
  have hro : ∀ v, out = .inl v → ro = true → U'.heap = H ∧ locs ++ L = locs := by
    intro v hv hr
    subst hv
    refine ⟨?_, ?_⟩
    · rw [eh, hm.2 hr]; exact hT0
    · cases L with
      | nil => simp
      | cons a b => have := (hL a List.mem_cons_self).1; rw [hr] at this; cases this
  have hgo := hcont out h' ad' U'.heap (locs ++ L) hK' hag hfx hlen (by rw [eh]; exact hP1) (hD1.weaken (fun i x hi _ => hfree _ (hD1.2 i x hi))) hS1 hro
  cases out with
  | inl v =>
    obtain ⟨ho, -⟩ := hm
    rcases hout with ⟨v', e1, hs⟩ | ⟨x, e1, hs⟩
    · rw [ho] at e1
      cases e1
      obtain ⟨t2, s2, q2⟩ := hgo U' rfl X'
      exact ⟨t2, hstep t2 (fun acts => by rw [doInvoke_state]; exact hs.trans s2), q2⟩
    · rw [ho] at e1; cases e1
  | inr ci =>
    obtain ⟨a, ho, hat⟩ := hm
    rcases hout with ⟨v', e1, hs⟩ | ⟨x, e1, hs⟩
    · rw [ho] at e1; cases e1
    · rw [ho] at e1
      cases e1
      obtain ⟨t2, s2, q2⟩ := hgo a (by rw [eh]; exact hat) U' rfl X'
      exact ⟨t2, hstep t2 (fun acts => by rw [doInvoke_state]; exact hs.trans s2), q2⟩
end ZROW
