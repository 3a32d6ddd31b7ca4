/-! what the tables say of an instruction is so: its bytes, its links -/
noncomputable def q_good : List Cond := lw_tbl.filter goodWord
def q_cR (x : Nat) : String := match x with
  | 0 => RX0
  | 1 => RX1
  | 2 => RX2
  | 3 => RX3
  | 4 => RX4
  | 5 => RX5
  | _ => RX6
def q_cT (x : Nat) : u_T := match x with
  | 0 => TX0
  | 1 => TX1
  | 2 => TX2
  | 3 => TX3
  | 4 => TX4
  | 5 => TX5
  | _ => TX6
def q_cN (x : Nat) : Nat := match x with
  | 0 => 3
  | 1 => 5
  | 2 => 12
  | 3 => 4
  | 4 => 4
  | 5 => 11
  | _ => 22
def q_cY (x : Nat) : Nat → FieldType := match x with
  | 0 => tyX0
  | 1 => tyX1
  | 2 => tyX2
  | 3 => tyX3
  | 4 => tyX4
  | 5 => tyX5
  | _ => tyX6
def q_nest : List (String × Nat × MethodName × String) := [("CarriedGate", 9, ⟨"CarriedGate$Plain", "<init>", "()V"⟩, "CarriedGate"), ("CarriedGate$Past", 22, ⟨"CarriedGate$Plain", "<init>", "()V"⟩, "CarriedGate"), ("CarriedGate", 38, ⟨"CarriedGate$Tape", "<init>", "()V"⟩, "CarriedGate"), ("CarriedGate", 51, ⟨"CarriedGate$Placing", "<init>", "()V"⟩, "CarriedGate"), ("CarriedGate", 63, ⟨"CarriedGate$Sheet", "<init>", "()V"⟩, "CarriedGate")]
def q_strs : List (String × Nat × String) := [("CarriedGate$Tape", 43, "nesw"), ("CarriedGate$Tape", 74, "gsthp"), ("CarriedGate$Tape", 76, "nesw.")]
noncomputable def q_at (p : Nat) (w : Cond) : Bool := match q_nth lw_tbl p with
  | some u => decide (u = w) && goodWord w
  | none => false
theorem q_at_mem {p : Nat} {w : Cond} (h : q_at p w = true) : w ∈ q_good := by
  unfold q_at at h
  rw [q_nth_eq] at h
  cases hu : lw_tbl[p]? with
  | none => rw [hu] at h; cases h
  | some u =>
    rw [hu] at h
    simp only [Bool.and_eq_true, decide_eq_true_eq] at h
    exact List.mem_filter.mpr ⟨h.1 ▸ List.mem_of_getElem? hu, h.2⟩
def q_t0 (tb : List Nat) : Nat := match tb with
  | a :: _ => a
  | [] => 0
def q_t1 (tb : List Nat) : Nat := match tb with
  | _ :: a :: _ => a
  | _ => 0
def q_cnd (v : Nat) : ClassFile.Cond := match v with
  | 0 => .eq
  | 1 => .ne
  | 2 => .lt
  | 3 => .ge
  | 4 => .gt
  | _ => .le
def q_bi (v : Nat) : Instr := match v with
  | 0 => .iadd
  | 1 => .isub
  | 2 => .imul
  | 3 => .idiv
  | 4 => .irem
  | 5 => .iand
  | 6 => .ior
  | 7 => .ixor
  | 8 => .ishl
  | 9 => .ishr
  | 10 => .iushr
  | 11 => .ladd
  | 12 => .lsub
  | 13 => .lmul
  | 14 => .ldiv
  | 15 => .lrem
  | 16 => .land
  | 17 => .lor
  | 18 => .lshl
  | _ => .lcmp
def q_ui (v : Nat) : Instr := match v with
  | 0 => .ineg
  | 1 => .i2b
  | 2 => .i2s
  | 3 => .i2c
  | 4 => .i2l
  | _ => .l2i
/-- the instruction of a micro-op, and its length -/
def q_in (pc op v : Nat) (c : Int) (x nx : Nat) (tb : List Nat) : Instr × Nat := match op with
  | 0 => (match v with
    | 0 => (.iload_n (Fin.ofNat 4 x), 1)
    | 1 => (.iload x, 2)
    | 2 => (.lload_n (Fin.ofNat 4 x), 1)
    | 3 => (.lload x, 2)
    | 4 => (.aload_n (Fin.ofNat 4 x), 1)
    | _ => (.aload x, 2))
  | 1 => (.getfield c.toNat, 3)
  | 2 => (match v with
    | 0 => (.iconst c, 1)
    | 1 => (.bipush c, 2)
    | 2 => (.sipush c, 3)
    | 3 => (.ldc x, 2)
    | _ => (.ldc_w x, 3))
  | 3 => (match v with
    | 0 => (.invokevirtual c.toNat, 3)
    | 4 => (.invokevirtual c.toNat, 3)
    | 1 => (.invokestatic c.toNat, 3)
    | _ => (.invokespecial c.toNat, 3))
  | 4 => (match v with
    | 4 => (.return_, 1)
    | 1 => (.lreturn, 1)
    | _ => (.ireturn, 1))
  | 5 => (match v with
    | 10 => (.iaload, 1)
    | 11 => (.laload, 1)
    | 12 => (.caload, 1)
    | _ => (.aaload, 1))
  | 6 => (q_bi v, 1)
  | 7 => (.goto ((x : Int) - pc), 3)
  | 8 => (.ifCond (q_cnd v) ((x : Int) - pc), 3)
  | 9 => (.if_icmp (q_cnd v) ((x : Int) - pc), 3)
  | 10 => (.putfield c.toNat, 3)
  | 11 => (match v with
    | 0 => (.istore_n (Fin.ofNat 4 x), 1)
    | 1 => (.istore x, 2)
    | 2 => (.lstore_n (Fin.ofNat 4 x), 1)
    | 3 => (.lstore x, 2)
    | 4 => (.astore_n (Fin.ofNat 4 x), 1)
    | _ => (.astore x, 2))
  | 12 => (match v with
    | 10 => (.iastore, 1)
    | 11 => (.lastore, 1)
    | 12 => (.castore, 1)
    | _ => (.aastore, 1))
  | 13 => (.iinc x c, 3)
  | 14 => (q_ui v, 1)
  | 15 => (match v with
    | 0 => (.lconst (Fin.ofNat 2 c.toNat), 1)
    | _ => (.ldc2_w x, 3))
  | 16 => (.dup, 1)
  | 17 => (.dup2, 1)
  | 18 => (.tableswitch ((x : Int) - (pc : Int)) c (c + (v : Int) - 1) (tb.map fun (t : Nat) => (t : Int) - (pc : Int)).toArray, nx - pc)
  | 19 => (.invokestatic c.toNat, 3)
  | 20 => (.new c.toNat, 3)
  | 21 => (match v with
    | 10 => (.newarray .int, 2)
    | 11 => (.newarray .long, 2)
    | _ => (.newarray .char, 2))
  | 22 => (.anewarray c.toNat, 3)
  | 23 => (.invokespecial c.toNat, 3)
  | 25 => (.invokestatic c.toNat, 3)
  | 26 => (.invokestatic c.toNat, 3)
  | 27 => (.getstatic x, 3)
  | 28 => (.getfield c.toNat, 3)
  | 29 => (.arraylength, 1)
  | 30 => (.baload, 1)
  | _ => (.ldc x, 2)
/-- places of the locals -/
def q_lx (v x y : Nat) : Bool := decide (v < 6) && decide (y = v / 2) && (decide (x < 4) || decide (v % 2 = 1))
/-- links and kinds -/
noncomputable def q_ex (k op v : Nat) (c : Int) (x y : Nat) (tb : List Nat) : Bool := match op with
  | 0 => q_lx v x y
  | 1 => decide (x < 7) && decide (y < q_cN x) && decide ((q_cT x y).1 = q_cR x) && q_at (q_t0 tb) (.fieldLink (q_mn k).cls c.toNat (q_cR x) (q_cT x y).2.1 (q_cT x y).2.2.1)
  | 2 => (match v with
    | 0 => true
    | 1 => decide ((Int8.ofInt c).toInt32 = Int32.ofInt c)
    | 2 => decide ((Int16.ofInt c).toInt32 = Int32.ofInt c)
    | _ => q_at (q_t0 tb) (.constant (q_mn k).cls x (Int32.ofInt c)))
  | 3 => decide (x < q_nm) && (match v with
    | 0 => decide (y = q_na x + 1) && decide (q_kd x = 0) && decide (q_t1 tb < 7) && decide ((q_mn x).cls = q_cR (q_t1 tb)) && q_at (q_t0 tb) (.methodLink (q_mn k).cls c.toNat (q_mn x))
    | 1 => decide (y = q_na x) && decide (q_kd x = 1) && q_at (q_t0 tb) (.methodLink (q_mn k).cls c.toNat (q_mn x))
    | 2 => decide (y = q_na x + 1) && decide (q_kd x = 2) && q_at (q_t0 tb) (.methodLink (q_mn k).cls c.toNat (q_mn x))
    | 3 => decide (y = q_na x + 1) && decide (q_kd x = 2) && decide (((q_mn k).cls, c.toNat, q_mn x, "CarriedGate") ∈ q_nest)
    | 4 => decide (y = q_na x + 1) && decide (q_kd x = 0) && decide ((q_mn x).cls = "java/lang/String") && q_at (q_t0 tb) (.methodLink (q_mn k).cls c.toNat (q_mn x))
    | _ => false)
  | 4 => (match v with
    | 0 => decide (q_mr k = some .int)
    | 1 => decide (q_mr k = some .long)
    | 2 => decide (q_mr k = some .char)
    | 3 => decide (q_mr k = some .boolean)
    | 4 => decide (q_mr k = none)
    | 5 => decide (q_mr k = some .byte)
    | _ => false)
  | 5 => decide (10 ≤ v) && decide (v ≤ 14)
  | 6 => decide (v < 20)
  | 7 => true
  | 8 => decide (v < 6)
  | 9 => decide (v < 6)
  | 10 => decide (x < 7) && decide (y < q_cN x) && decide ((q_cT x y).1 = q_cR x) && q_at (q_t0 tb) (.fieldLink (q_mn k).cls c.toNat (q_cR x) (q_cT x y).2.1 (q_cT x y).2.2.1) && (match v % 10 with
      | 0 => decide (q_cY x y = .int)
      | 1 => decide (q_cY x y = .long)
      | 3 => decide (q_cY x y = .boolean)
      | 4 => (match q_cY x y with
        | .object _ => true
        | .array _ => true
        | _ => false)
      | _ => false) && (match (q_cT x y).2.2.2 with
      | true => decide ((q_mn k).cls = q_cR x) && decide ((q_mn k).name = "<init>")
      | false => true)
  | 11 => q_lx v x y && decide (x < (q_I k).1) && (decide (x + 1 < (q_I k).1) || decide (y ≠ 1))
  | 12 => decide (10 ≤ v) && decide (v ≤ 14)
  | 13 => decide (x < (q_I k).1)
  | 14 => decide (v < 6)
  | 15 => (match v with
    | 0 => decide (c = 0) || decide (c = 1)
    | _ => q_at (q_t0 tb) (.constantLong (q_mn k).cls x (Int64.ofInt c)))
  | 16 => true
  | 17 => true
  | 18 => decide (tb.length = v)
  | 19 => q_at (q_t0 tb) (.methodLink (q_mn k).cls c.toNat arraycopyName)
  | 20 => decide (x < 7) && q_at (q_t0 tb) (.classLink (q_mn k).cls c.toNat (q_cR x))
  | 21 => decide (10 ≤ v) && decide (v ≤ 12)
  | 22 => (match v with
    | 13 => q_at (q_t0 tb) (.classLink (q_mn k).cls c.toNat "CarriedGate$Plain")
    | 14 => q_at (q_t0 tb) (.classLink (q_mn k).cls c.toNat "CarriedGate$Sheet")
    | _ => false)
  | 23 => q_at (q_t0 tb) (.methodLink (q_mn k).cls c.toNat objectInit)
  | 24 => q_strs.any fun n => decide (n.1 = (q_mn k).cls) && decide (n.2.1 = x) && decide (x < 4294967296)
  | 25 => q_at (q_t0 tb) (.methodLink (q_mn k).cls c.toNat Lib.Math.abs.name)
  | 26 => (match v with
    | 20 => q_at (q_t0 tb) (.methodLink (q_mn k).cls c.toNat Lib.Math.max.name)
    | 21 => q_at (q_t0 tb) (.methodLink (q_mn k).cls c.toNat Lib.Math.min.name)
    | _ => false)
  | 27 => decide (c = 1) && q_at (q_t0 tb) (.fieldLink (q_mn k).cls x "java/lang/String" "COMPACT_STRINGS" "Z")
  | 28 => (match v with
    | 8 => q_at (q_t0 tb) (.fieldLink (q_mn k).cls c.toNat "java/lang/String" "value" "[B")
    | 9 => q_at (q_t0 tb) (.fieldLink (q_mn k).cls c.toNat "java/lang/String" "coder" "B")
    | _ => false)
  | 29 => decide (v = 10)
  | 30 => decide (v = 22)
  | _ => false
/-- an immediate is an int, or a long -/
def q_im (op : Nat) (c : Int) : Bool := match op with
  | 2 => decide (-2147483648 ≤ c) && decide (c ≤ 2147483647)
  | 13 => decide (-2147483648 ≤ c) && decide (c ≤ 2147483647)
  | 15 => decide (-9223372036854775808 ≤ c) && decide (c ≤ 9223372036854775807)
  | _ => true
noncomputable def q_ck (k pc : Nat) : q_MI → Bool
  | (op, v, c, x, y, nx, tb) => decide (decode (q_mc k) pc = .ok (q_in pc op v c x nx tb)) && decide (nx = pc + (q_in pc op v c x nx tb).2) && q_ex k op v c x y tb && q_im op c
noncomputable def q_ckp (k pc : Nat) : Bool := match (q_I k).2 pc with
  | some mi => q_ck k pc mi
  | none => true
noncomputable def q_ckm (k : Nat) : Bool := Nat.rec (motive := fun _ => Bool) true (fun pc r => r && q_ckp k pc) (q_len k)
/-- a method's own words -/
noncomputable def q_ckw (k : Nat) : Bool := match q_ps k with
  | [a, b, d, e] => (match q_kd k with
      | 0 => q_at b (.instanceMethod (q_mn k)) && q_at d (.selects (q_mn k).cls (q_mn k) (q_mn k))
      | 1 => q_at b (.static (q_mn k))
      | _ => q_at b (.instanceMethod (q_mn k)) && decide ((q_mn k).name = "<init>") && decide (q_mr k = none)) && q_at e (.initialized (q_mn k).cls) && q_at a (.code (q_mn k) (q_mc k) (q_I k).1 (q_mr k)) && plainFor (q_mn k) && decide ((q_mn k).cls ≠ "java/lang/invoke/MethodHandle") && decide ((q_mn k).cls ≠ "java/lang/invoke/VarHandle") && decide ((parseMethodDescriptor (q_mn k).desc).map (fun d => d.parameters.length) = some (q_na k)) && Nat.ble (q_I k).1 15
  | _ => false
