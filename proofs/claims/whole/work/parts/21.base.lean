def rmL (d mc ms : Nat) : Room := { frames := d + 1, cells := mc, slots := ms, locals := 30 * d + 100 }
def zGn : Nat → Option (Nat × Nat × FieldType × Bool) := fun _ => none
def zEn0 : ClassId → ClassId → Nat → Nat → Option zEn := fun _ _ _ _ => none
def zXn : Nat → Option (Nat × Nat) := fun _ => none
def zSn : Nat → Bool := fun _ => false
def zNn : Nat → Option (Nat × Nat × List Value) := fun _ => none
def zCn : Nat → Option Int32 := fun _ => none
theorem wg_ac (y : Cond) : Cond.arrayClass .int ∈ y :: wsG := List.mem_cons_of_mem _ (wsG_all (L := [Cond.arrayClass .int]) (by decide +kernel) _ List.mem_cons_self)
