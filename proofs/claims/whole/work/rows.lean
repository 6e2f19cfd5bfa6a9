section
/-! A MACHINE OF OUR OWN over pictures: values whose references are places in a list of cells, one step a function, methods by number. -/
def zm_v (ad : Nat → Nat) : Value → Value
  | .ref i => .ref (ad i)
  | v => v
abbrev zm_E : Type := (Nat × vp_A) ⊕ (Nat × List Value)
def zm_e (tc : Nat → ClassId) (ad : Nat → Nat) : zm_E → va_E
  | .inl a => .inl (tc a.1, a.2)
  | .inr o => .inr (o.1, o.2.map (zm_v ad))
def zm_w (tc : Nat → ClassId) (ad : Nat → Nat) : Nat → List zm_E → va_W
  | _, [] => []
  | i, x :: l => (ad i, zm_e tc ad x) :: zm_w tc ad (i + 1) l
def zm_n {α : Type} : List α → Nat → Option α
  | [], _ => none
  | a :: _, 0 => some a
  | _ :: l, n + 1 => zm_n l n
abbrev zm_S : Type := Nat × List (Option Value) × List Value × List zm_E
abbrev zm_R : Type := Option ((Option Prop × zm_S) ⊕ ((Prop × zm_S × zm_S) ⊕ ((Prop × Option Value × List zm_E) ⊕ (Nat × List Value × zm_S))))
def zm_r0 (s : zm_S) : zm_R := some (.inl (none, s))
def zm_r1 (c : Prop) (s : zm_S) : zm_R := some (.inl (some c, s))
def zm_c : Option Prop → Prop
  | none => True
  | some c => c
def zm_r2 (c : Prop) (s t : zm_S) : zm_R := some (.inr (.inl (c, s, t)))
def zm_r3 (c : Prop) (v : Option Value) (w : List zm_E) : zm_R := some (.inr (.inr (.inl (c, v, w))))
def zm_r4 (k : Nat) (as : List Value) (s : zm_S) : zm_R := some (.inr (.inr (.inr (k, as, s))))
/-- an instruction: itself, its length, a number, a long, three numbers (a local's place, a target, a class and a field, a method and its arguments and its class) -/
abbrev zm_I : Type := Instr × Nat × Int32 × Int64 × Nat × Nat × Nat
/-- a method: name, bytes, locals, answer, parameters, static or not, its class's number, its instructions by their places -/
abbrev zm_M : Type := MethodName × ByteArray × Nat × Option FieldType × Nat × Bool × Nat × List (Option zm_I)
/-- a local is stored: a long in front of it is gone -/
def zm_k (lv : List (Option Value)) : Nat → List (Option Value)
  | 0 => lv
  | j + 1 => match zm_n lv j with
    | some (some (.long _)) => lv.set j none
    | some (some (.double _)) => lv.set j none
    | _ => lv
def zm_s1 (lv : List (Option Value)) (i : Nat) (v : Value) : List (Option Value) := (zm_k lv i).set i (some v)
def zm_s2 (lv : List (Option Value)) (i : Nat) (v : Value) : List (Option Value) := ((zm_k lv i).set (i + 1) none).set i (some v)
def zm_sw (pc : Nat) (d lo hi : Int) (offs : Array Int) (x : Int32) : Nat := if x.toInt < lo ∨ hi < x.toInt then ((pc : Int) + d).toNat else ((pc : Int) + (offs[(x.toInt - lo).toNat]?).getD 0).toNat
section ZMX
variable (pc : Nat) (lv : List (Option Value)) (ws : List zm_E)
def zm_xi2 (f : Int32 → Int32 → Int32) : List Value → zm_R
  | .int y :: .int x :: r => zm_r0 (pc, lv, .int (f x y) :: r, ws)
  | _ => none
def zm_xd2 (f : Int32 → Int32 → Int32) : List Value → zm_R
  | .int y :: .int x :: r => zm_r1 (¬ y = 0) (pc, lv, .int (f x y) :: r, ws)
  | _ => none
def zm_xl2 (f : Int64 → Int64 → Int64) : List Value → zm_R
  | .long y :: .long x :: r => zm_r0 (pc, lv, .long (f x y) :: r, ws)
  | _ => none
def zm_xm2 (f : Int64 → Int64 → Int64) : List Value → zm_R
  | .long y :: .long x :: r => zm_r1 (¬ y = 0) (pc, lv, .long (f x y) :: r, ws)
  | _ => none
def zm_xs2 (f : Int64 → Int32 → Int64) : List Value → zm_R
  | .int y :: .long x :: r => zm_r0 (pc, lv, .long (f x y) :: r, ws)
  | _ => none
/-- a branch on one number: to where, if .. -/
def zm_b1 (f : Int32 → Prop) (u : Nat) : List Value → zm_R
  | .int x :: r => zm_r2 (f x) (u, lv, r, ws) (pc, lv, r, ws)
  | _ => none
def zm_b2 (f : Int32 → Int32 → Prop) (u : Nat) : List Value → zm_R
  | .int y :: .int x :: r => zm_r2 (f x y) (u, lv, r, ws) (pc, lv, r, ws)
  | _ => none
def zm_b1n (u : Nat) : List Value → zm_R
  | .int x :: r => zm_r2 (x = 0) (pc, lv, r, ws) (u, lv, r, ws)
  | _ => none
def zm_b2n (u : Nat) : List Value → zm_R
  | .int y :: .int x :: r => zm_r2 (x = y) (pc, lv, r, ws) (u, lv, r, ws)
  | _ => none
def zm_xld (st : List Value) (t : Nat) : Option (Option Value) → zm_R
  | some (some (.int x)) => match t with
    | 0 => zm_r0 (pc, lv, .int x :: st, ws)
    | _ => none
  | some (some (.long x)) => match t with
    | 1 => zm_r0 (pc, lv, .long x :: st, ws)
    | _ => none
  | some (some (.ref x)) => match t with
    | 2 => zm_r0 (pc, lv, .ref x :: st, ws)
    | _ => none
  | _ => none
def zm_xsi (u : Nat) : List Value → zm_R
  | .int x :: r => zm_r0 (pc, zm_s1 lv u (.int x), r, ws)
  | _ => none
def zm_xsl (u : Nat) : List Value → zm_R
  | .long x :: r => zm_r0 (pc, zm_s2 lv u (.long x), r, ws)
  | _ => none
def zm_xsa (u : Nat) : List Value → zm_R
  | .ref x :: r => zm_r0 (pc, zm_s1 lv u (.ref x), r, ws)
  | _ => none
def zm_xinc (st : List Value) (u : Nat) (c : Int32) : Option (Option Value) → zm_R
  | some (some (.int x)) => zm_r0 (pc, zm_s1 lv u (.int (x + c)), st, ws)
  | _ => none
def zm_xget (r : List Value) (u w : Nat) : Option zm_E → zm_R
  | some (.inr (ci, fs)) => match Nat.beq ci u with
    | true => match zm_n fs w with
      | some v => zm_r0 (pc, lv, v :: r, ws)
      | none => none
    | false => none
  | _ => none
/-- a field's type: 0 int, 1 long, 2 boolean -/
def zm_xput (a : Nat) (r : List Value) (u w : Nat) (v : Value) (P : Option Prop) : Option zm_E → zm_R
  | some (.inr (ci, fs)) => match Nat.beq ci u with
    | true => match Nat.ble (w + 1) fs.length with
      | true => some (.inl (P, (pc, lv, r, ws.set a (.inr (ci, fs.set w v)))))
      | false => none
    | false => none
  | _ => none
def zm_xput0 (u w z : Nat) : List Value → zm_R
  | .int x :: .ref a :: r => match z with
    | 0 => zm_xput pc lv ws a r u w (.int x) none (zm_n ws a)
    | 2 => zm_xput pc lv ws a r u w (.int x) (some (x = 0 ∨ x = 1)) (zm_n ws a)
    | _ => none
  | .long x :: .ref a :: r => match z with
    | 1 => zm_xput pc lv ws a r u w (.long x) none (zm_n ws a)
    | _ => none
  | _ => none
def zm_xald (r : List Value) (i : Int32) (t : Nat) : Option zm_E → zm_R
  | some (.inl (k, n, .inl f)) => match Nat.beq k t with
    | true => zm_r1 (vp_in i n) (pc, lv, .int (f i.toNatClampNeg) :: r, ws)
    | false => none
  | _ => none
def zm_xlald (r : List Value) (i : Int32) : Option zm_E → zm_R
  | some (.inl (k, n, .inr (.inl f))) => match Nat.beq k 1 with
    | true => zm_r1 (vp_in i n) (pc, lv, .long (f i.toNatClampNeg) :: r, ws)
    | false => none
  | _ => none
def zm_xast (a : Nat) (r : List Value) (i x : Int32) (t : Nat) : Option zm_E → zm_R
  | some (.inl (k, n, .inl f)) => match Nat.beq k t with
    | true => zm_r1 (vp_in i n) (pc, lv, r, ws.set a (.inl (k, n, .inl (upd f i.toNatClampNeg x))))
    | false => none
  | _ => none
def zm_xlast (a : Nat) (r : List Value) (i : Int32) (x : Int64) : Option zm_E → zm_R
  | some (.inl (k, n, .inr (.inl f))) => match Nat.beq k 1 with
    | true => zm_r1 (vp_in i n) (pc, lv, r, ws.set a (.inl (k, n, .inr (.inl (vp_updL f i.toNatClampNeg x)))))
    | false => none
  | _ => none
def zm_al (t : Nat) : List Value → zm_R
  | .int i :: .ref a :: r => zm_xald pc lv ws r i t (zm_n ws a)
  | _ => none
def zm_lal : List Value → zm_R
  | .int i :: .ref a :: r => zm_xlald pc lv ws r i (zm_n ws a)
  | _ => none
def zm_as (t : Nat) (g : Int32 → Int32) : List Value → zm_R
  | .int x :: .int i :: .ref a :: r => zm_xast pc lv ws a r i (g x) t (zm_n ws a)
  | _ => none
def zm_las : List Value → zm_R
  | .long x :: .int i :: .ref a :: r => zm_xlast pc lv ws a r i x (zm_n ws a)
  | _ => none
def zm_gf (u w : Nat) : List Value → zm_R
  | .ref a :: r => zm_xget pc lv ws r u w (zm_n ws a)
  | _ => none
def zm_cv2 (b : Nat) (r as : List Value) (u z : Nat) : Option zm_E → zm_R
  | some (.inr (ci, _)) => match Nat.beq ci z with
    | true => match Nat.ble ((r.map fun v => v.category).sum) 8 with
      | true => zm_r4 u (.ref b :: as.reverse) (pc, lv, r, ws)
      | false => none
    | false => none
  | _ => none
def zm_cv (u z : Nat) (as : List Value) : List Value → zm_R
  | .ref b :: r => zm_cv2 pc lv ws b r as u z (zm_n ws b)
  | _ => none
/-- an array of numbers is copied into another one, from the first place on (arraycopy, n numbers) -/
def zm_cpy2 (a : Nat) (r : List Value) (n : Int32) (f : Nat → Int32) (n0 : Nat) : Option zm_E → zm_R
  | some (.inl (k, n1, .inl g)) => match Nat.beq k 0 with
    | true => zm_r1 (¬ n < 0 ∧ n.toNatClampNeg ≤ n0 ∧ n.toNatClampNeg ≤ n1) (pc, lv, r, ws.set a (.inl (k, n1, .inl (va_cpy f g 0 0 n.toNatClampNeg))))
    | false => none
  | _ => none
def zm_cpy1 (a : Nat) (r : List Value) (n : Int32) : Option zm_E → zm_R
  | some (.inl (k, n0, .inl f)) => match Nat.beq k 0 with
    | true => zm_cpy2 pc lv ws a r n f n0 (zm_n ws a)
    | false => none
  | _ => none
def zm_cpy : List Value → zm_R
  | .int n :: .int dp :: .ref a :: .int sp :: .ref a0 :: r => match decide (dp = 0 ∧ sp = 0) with
    | true => match Nat.ble ((r.map fun v => v.category).sum) 8 with
      | true => zm_cpy1 pc lv ws a r n (zm_n ws a0)
      | false => none
    | false => none
  | _ => none
/-- Math.min -/
def zm_min : List Value → zm_R
  | .int y :: .int x :: r => match Nat.ble ((r.map fun v => v.category).sum) 8 with
    | true => zm_r0 (pc, lv, .int (if y < x then y else x) :: r, ws)
    | false => none
  | _ => none
def zm_cs (u w : Nat) (st : List Value) : zm_R := match Nat.ble w st.length with
  | true => match Nat.ble (((st.drop w).map fun v => v.category).sum) 8 with
    | true => zm_r4 u (st.take w).reverse (pc, lv, st.drop w, ws)
    | false => none
  | false => none
def zm_dup : List Value → zm_R
  | a :: r => match Nat.beq a.category 1 with
    | true => zm_r0 (pc, lv, a :: a :: r, ws)
    | false => none
  | _ => none
def zm_dup2 : List Value → zm_R
  | a :: b :: r => match Nat.beq a.category 1 with
    | true => match Nat.beq b.category 1 with
      | true => zm_r0 (pc, lv, a :: b :: a :: b :: r, ws)
      | false => none
    | false => none
  | _ => none
def zm_ri (rt : Option FieldType) : List Value → zm_R
  | [.int x] => match rt with
    | some .int => zm_r3 True (some (.int x)) ws
    | some .boolean => zm_r3 (x = 0 ∨ x = 1) (some (.int x)) ws
    | _ => none
  | _ => none
def zm_rl (rt : Option FieldType) : List Value → zm_R
  | [.long x] => match rt with
    | some .long => zm_r3 True (some (.long x)) ws
    | _ => none
  | _ => none
def zm_ra (rt : Option FieldType) : List Value → zm_R
  | [.ref x] => match rt with
    | some (.object _) => zm_r3 True (some (.ref x)) ws
    | _ => none
  | _ => none
def zm_rv (rt : Option FieldType) : List Value → zm_R
  | [] => match rt with
    | none => zm_r3 True none ws
    | _ => none
  | _ => none
def zm_xsw (pc0 : Nat) (d lo hi : Int) (offs : Array Int) : List Value → zm_R
  | .int x :: r => zm_r0 (zm_sw pc0 d lo hi offs x, lv, r, ws)
  | _ => none
def zm_x1 (f : Int32 → Int32) : List Value → zm_R
  | .int x :: r => zm_r0 (pc, lv, .int (f x) :: r, ws)
  | _ => none
def zm_x1l (f : Int64 → Int64) : List Value → zm_R
  | .long x :: r => zm_r0 (pc, lv, .long (f x) :: r, ws)
  | _ => none
def zm_xi2l : List Value → zm_R
  | .int x :: r => zm_r0 (pc, lv, .long x.toInt64 :: r, ws)
  | _ => none
def zm_xl2i : List Value → zm_R
  | .long x :: r => zm_r0 (pc, lv, .int x.toInt32 :: r, ws)
  | _ => none
def zm_xcmp : List Value → zm_R
  | .long y :: .long x :: r => zm_r0 (pc, lv, .int (lg_cmp x y) :: r, ws)
  | _ => none
end ZMX
/-- one step -/
def zm_x (rt : Option FieldType) (q : zm_I) (pc : Nat) (lv : List (Option Value)) (st : List Value) (ws : List zm_E) : zm_R :=
  match q.1 with
  | .iconst _ => zm_r0 (pc + q.2.1, lv, .int q.2.2.1 :: st, ws)
  | .bipush _ => zm_r0 (pc + q.2.1, lv, .int q.2.2.1 :: st, ws)
  | .sipush _ => zm_r0 (pc + q.2.1, lv, .int q.2.2.1 :: st, ws)
  | .ldc _ => zm_r0 (pc + q.2.1, lv, .int q.2.2.1 :: st, ws)
  | .ldc_w _ => zm_r0 (pc + q.2.1, lv, .int q.2.2.1 :: st, ws)
  | .lconst _ => zm_r0 (pc + q.2.1, lv, .long q.2.2.2.1 :: st, ws)
  | .ldc2_w _ => zm_r0 (pc + q.2.1, lv, .long q.2.2.2.1 :: st, ws)
  | .iload_n _ => zm_xld (pc + q.2.1) lv ws st 0 (zm_n lv q.2.2.2.2.1)
  | .iload _ => zm_xld (pc + q.2.1) lv ws st 0 (zm_n lv q.2.2.2.2.1)
  | .lload_n _ => zm_xld (pc + q.2.1) lv ws st 1 (zm_n lv q.2.2.2.2.1)
  | .lload _ => zm_xld (pc + q.2.1) lv ws st 1 (zm_n lv q.2.2.2.2.1)
  | .aload_n _ => zm_xld (pc + q.2.1) lv ws st 2 (zm_n lv q.2.2.2.2.1)
  | .aload _ => zm_xld (pc + q.2.1) lv ws st 2 (zm_n lv q.2.2.2.2.1)
  | .istore_n _ => zm_xsi (pc + q.2.1) lv ws q.2.2.2.2.1 st
  | .istore _ => zm_xsi (pc + q.2.1) lv ws q.2.2.2.2.1 st
  | .lstore_n _ => zm_xsl (pc + q.2.1) lv ws q.2.2.2.2.1 st
  | .lstore _ => zm_xsl (pc + q.2.1) lv ws q.2.2.2.2.1 st
  | .astore_n _ => zm_xsa (pc + q.2.1) lv ws q.2.2.2.2.1 st
  | .astore _ => zm_xsa (pc + q.2.1) lv ws q.2.2.2.2.1 st
  | .iinc _ _ => zm_xinc (pc + q.2.1) lv ws st q.2.2.2.2.1 q.2.2.1 (zm_n lv q.2.2.2.2.1)
  | .iadd => zm_xi2 (pc + q.2.1) lv ws (fun x y => x + y) st
  | .isub => zm_xi2 (pc + q.2.1) lv ws (fun x y => x - y) st
  | .imul => zm_xi2 (pc + q.2.1) lv ws (fun x y => x * y) st
  | .iand => zm_xi2 (pc + q.2.1) lv ws (fun x y => x &&& y) st
  | .ishl => zm_xi2 (pc + q.2.1) lv ws (fun x y => x <<< (y &&& 31)) st
  | .idiv => zm_xd2 (pc + q.2.1) lv ws (fun x y => x / y) st
  | .irem => zm_xd2 (pc + q.2.1) lv ws (fun x y => x - x / y * y) st
  | .ineg => zm_x1 (pc + q.2.1) lv ws (fun x => -x) st
  | .ladd => zm_xl2 (pc + q.2.1) lv ws (fun x y => x + y) st
  | .lsub => zm_xl2 (pc + q.2.1) lv ws (fun x y => x - y) st
  | .lmul => zm_xl2 (pc + q.2.1) lv ws (fun x y => x * y) st
  | .land => zm_xl2 (pc + q.2.1) lv ws (fun x y => x &&& y) st
  | .lor => zm_xl2 (pc + q.2.1) lv ws (fun x y => x ||| y) st
  | .lxor => zm_xl2 (pc + q.2.1) lv ws (fun x y => x ^^^ y) st
  | .ldiv => zm_xm2 (pc + q.2.1) lv ws (fun x y => x / y) st
  | .lrem => zm_xm2 (pc + q.2.1) lv ws (fun x y => x - x / y * y) st
  | .lneg => zm_x1l (pc + q.2.1) lv ws (fun x => -x) st
  | .lshl => zm_xs2 (pc + q.2.1) lv ws (fun x y => x <<< (y.toInt64 &&& 63)) st
  | .lshr => zm_xs2 (pc + q.2.1) lv ws (fun x y => x >>> (y.toInt64 &&& 63)) st
  | .lushr => zm_xs2 (pc + q.2.1) lv ws (fun x y => (x.toUInt64 >>> (y.toInt64.toUInt64 &&& Int64.toUInt64 63)).toInt64) st
  | .i2l => zm_xi2l (pc + q.2.1) lv ws st
  | .l2i => zm_xl2i (pc + q.2.1) lv ws st
  | .lcmp => zm_xcmp (pc + q.2.1) lv ws st
  | .dup => zm_dup (pc + q.2.1) lv ws st
  | .dup2 => zm_dup2 (pc + q.2.1) lv ws st
  | .ifCond k _ => match k with
    | .eq => zm_b1 (pc + q.2.1) lv ws (fun x => x = 0) q.2.2.2.2.1 st
    | .ne => zm_b1n (pc + q.2.1) lv ws q.2.2.2.2.1 st
    | .lt => zm_b1 (pc + q.2.1) lv ws (fun x => x < 0) q.2.2.2.2.1 st
    | .ge => zm_b1 (pc + q.2.1) lv ws (fun x => 0 ≤ x) q.2.2.2.2.1 st
    | .gt => zm_b1 (pc + q.2.1) lv ws (fun x => 0 < x) q.2.2.2.2.1 st
    | .le => zm_b1 (pc + q.2.1) lv ws (fun x => x ≤ 0) q.2.2.2.2.1 st
  | .if_icmp k _ => match k with
    | .eq => zm_b2 (pc + q.2.1) lv ws (fun x y => x = y) q.2.2.2.2.1 st
    | .ne => zm_b2n (pc + q.2.1) lv ws q.2.2.2.2.1 st
    | .lt => zm_b2 (pc + q.2.1) lv ws (fun x y => x < y) q.2.2.2.2.1 st
    | .ge => zm_b2 (pc + q.2.1) lv ws (fun x y => y ≤ x) q.2.2.2.2.1 st
    | .gt => zm_b2 (pc + q.2.1) lv ws (fun x y => y < x) q.2.2.2.2.1 st
    | .le => zm_b2 (pc + q.2.1) lv ws (fun x y => x ≤ y) q.2.2.2.2.1 st
  | .goto _ => zm_r0 (q.2.2.2.2.1, lv, st, ws)
  | .tableswitch d lo hi offs => zm_xsw lv ws pc d lo hi offs st
  | .getfield _ => zm_gf (pc + q.2.1) lv ws q.2.2.2.2.1 q.2.2.2.2.2.1 st
  | .putfield _ => zm_xput0 (pc + q.2.1) lv ws q.2.2.2.2.1 q.2.2.2.2.2.1 q.2.2.2.2.2.2 st
  | .iaload => zm_al (pc + q.2.1) lv ws 0 st
  | .baload => zm_al (pc + q.2.1) lv ws 2 st
  | .laload => zm_lal (pc + q.2.1) lv ws st
  | .iastore => zm_as (pc + q.2.1) lv ws 0 (fun x => x) st
  | .bastore => zm_as (pc + q.2.1) lv ws 2 (vp_nar .boolean) st
  | .lastore => zm_las (pc + q.2.1) lv ws st
  | .invokevirtual _ => zm_cv (pc + q.2.1) lv ws q.2.2.2.2.1 q.2.2.2.2.2.2 (st.take q.2.2.2.2.2.1) (st.drop q.2.2.2.2.2.1)
  | .invokestatic _ => match Nat.beq q.2.2.2.2.2.2 99 with
    | true => zm_cpy (pc + q.2.1) lv ws st
    | false => match Nat.beq q.2.2.2.2.2.2 98 with
      | true => zm_min (pc + q.2.1) lv ws st
      | false => zm_cs (pc + q.2.1) lv ws q.2.2.2.2.1 q.2.2.2.2.2.1 st
  | .ireturn => zm_ri ws rt st
  | .lreturn => zm_rl ws rt st
  | .areturn => zm_ra ws rt st
  | .return_ => zm_rv ws rt st
  | _ => none
def zm_nx (M : zm_M) (s : zm_S) : zm_R := match zm_n M.2.2.2.2.2.2.2 s.1 with
  | some (some q) => zm_x M.2.2.2.1 q s.1 s.2.1 s.2.2.1 s.2.2.2
  | _ => none
/-- fewer known locals -/
def zm_le : List (Option Value) → List (Option Value) → Prop
  | [], [] => True
  | a :: l, b :: m => (a = none ∨ a = b) ∧ zm_le l m
  | _, _ => False
def zm_o (ev : Nat → List Value → List zm_E → Option Value → List zm_E → Prop) (go : zm_S → Prop) (v : Option Value) (w : List zm_E) : zm_R → Prop
  | some (.inl (c, t)) => zm_c c ∧ go t
  | some (.inr (.inl (c, t, f))) => (c ∧ go t) ∨ (¬ c ∧ go f)
  | some (.inr (.inr (.inl (c, v0, w0)))) => c ∧ v = v0 ∧ w = w0
  | some (.inr (.inr (.inr (k, as, t)))) => ∃ v1 w1, ev k as t.2.2.2 v1 w1 ∧ go (t.1, t.2.1, v1.toList ++ t.2.2.1, w1)
  | none => False
def zm_rn (ev : Nat → List Value → List zm_E → Option Value → List zm_E → Prop) (M : zm_M) (v : Option Value) (w : List zm_E) : Nat → zm_S → Prop
  | 0, _ => False
  | n + 1, s => (∃ lv, zm_le lv s.2.1 ∧ zm_rn ev M v w n (s.1, lv, s.2.2)) ∨ zm_o ev (zm_rn ev M v w n) v w (zm_nx M s)
/-- the locals at the start -/
def zm_a0 : List Value → List (Option Value)
  | [] => []
  | .long x :: l => some (.long x) :: none :: zm_a0 l
  | .double x :: l => some (.double x) :: none :: zm_a0 l
  | v :: l => some v :: zm_a0 l
def zm_in (M : zm_M) (as : List Value) (ws : List zm_E) : zm_S := (0, zm_a0 as ++ List.replicate (M.2.2.1 - (zm_a0 as).length) none, [], ws)
def zm_ev (get : Nat → Option zm_M) : Nat → Nat → List Value → List zm_E → Option Value → List zm_E → Prop
  | 0, _, _, _, _, _ => False
  | d + 1, k, as, ws, v, w => ∃ M n, get k = some M ∧ (zm_a0 as).length ≤ M.2.2.1 ∧ zm_rn (zm_ev get d) M v w n (zm_in M as ws)
def zm_Run (get : Nat → Option zm_M) (d : Nat) (M : zm_M) (s : zm_S) (Q : Option Value → List zm_E → Prop) : Prop := ∃ n v w, zm_rn (zm_ev get d) M v w n s ∧ Q v w
def zm_Ev (get : Nat → Option zm_M) (d : Nat) (k : Nat) (as : List Value) (ws : List zm_E) (Q : Option Value → List zm_E → Prop) : Prop := ∃ v w, zm_ev get d k as ws v w ∧ Q v w
/-- n steps that ask nothing -/
def zm_un (M : zm_M) : Nat → zm_S → Option zm_S
  | 0, s => some s
  | n + 1, s => match zm_nx M s with
    | some (.inl (none, t)) => zm_un M n t
    | _ => none
end
section
/-! The step of our machine is the JVM's: each instruction by the kit's row. -/
theorem zm_n_eq {α : Type} (l : List α) (i : Nat) : zm_n l i = l[i]? := by
  induction l generalizing i with
  | nil => rfl
  | cons a l ih => cases i with
    | zero => rfl
    | succ i => simpa [zm_n] using ih i
theorem zm_w_get (tc : Nat → ClassId) (ad : Nat → Nat) (ws : List zm_E) (i a : Nat) : (zm_w tc ad i ws)[a]? = (zm_n ws a).map (fun x => (ad (i + a), zm_e tc ad x)) := by
  induction ws generalizing i a with
  | nil => rfl
  | cons x l ih => cases a with
    | zero => rfl
    | succ a =>
      show (zm_w tc ad (i + 1) l)[a]? = _
      rw [ih, show i + 1 + a = i + (a + 1) by omega]
      rfl
theorem zm_w_at {tc : Nat → ClassId} {ad : Nat → Nat} {ws : List zm_E} {a : Nat} {x : zm_E} (h : zm_n ws a = some x) : (zm_w tc ad 0 ws)[a]? = some (ad a, zm_e tc ad x) := by
  rw [zm_w_get, h, Nat.zero_add]; rfl
theorem zm_w_set (tc : Nat → ClassId) (ad : Nat → Nat) (ws : List zm_E) (x : zm_E) (i a : Nat) : zm_w tc ad i (ws.set a x) = (zm_w tc ad i ws).set a (ad (i + a), zm_e tc ad x) := by
  induction ws generalizing i a with
  | nil => rfl
  | cons y l ih => cases a with
    | zero => rfl
    | succ a =>
      show _ :: zm_w tc ad (i + 1) (l.set a x) = _ :: (zm_w tc ad (i + 1) l).set a _
      rw [ih, show i + 1 + a = i + (a + 1) by omega]
theorem zm_w_set0 (tc : Nat → ClassId) (ad : Nat → Nat) (ws : List zm_E) (x : zm_E) (a : Nat) : (zm_w tc ad 0 ws).set a (ad a, zm_e tc ad x) = zm_w tc ad 0 (ws.set a x) := by
  rw [zm_w_set, Nat.zero_add]
theorem zm_v_cat (ad : Nat → Nat) (v : Value) : (zm_v ad v).category = v.category := by cases v <;> rfl
theorem zm_cats (ad : Nat → Nat) (r : List Value) : ((r.map (zm_v ad)).map fun v => v.category) = r.map fun v => v.category := by
  rw [List.map_map]; exact List.map_congr_left fun v _ => zm_v_cat ad v
/-- the locals of the machine are those of the picture -/
def zm_L (ad : Nat → Nat) (ls : Array Slot) (nL : Nat) (lv : List (Option Value)) : Prop := ls.size = nL ∧ lv_wf ls ∧ ∀ (i : Nat) (v : Value), zm_n lv i = some (some v) → ls[i]? = some (.val (zm_v ad v))
theorem zm_L.list {ad : Nat → Nat} {ls : Array Slot} {nL : Nat} {lv : List (Option Value)} (h : zm_L ad ls nL lv) : ∃ l, lv_has ls nL l ∧ ∀ (i : Nat) (v : Value), zm_n lv i = some (some v) → (i, zm_v ad v) ∈ l := by
  refine ⟨(List.range lv.length).filterMap (fun i => match zm_n lv i with
    | some (some v) => some (i, zm_v ad v)
    | _ => none), ⟨h.1, h.2.1, fun q hq => ?_⟩, fun i v hi => ?_⟩
  · obtain ⟨i, -, hi⟩ := List.mem_filterMap.mp hq
    split at hi
    next v hv => cases hi; exact h.2.2 i v hv
    next => cases hi
  · refine List.mem_filterMap.mpr ⟨i, ?_, by rw [hi]⟩
    rw [zm_n_eq] at hi
    exact List.mem_range.mpr (List.getElem?_eq_some_iff.mp hi).1
theorem zm_k_get {lv : List (Option Value)} {i j : Nat} {v : Value} (h : zm_n (zm_k lv i) j = some (some v)) : zm_n lv j = some (some v) ∧ ¬ (j + 1 = i ∧ v.category = 2) := by
  cases i with
  | zero => exact ⟨h, fun q => by omega⟩
  | succ i =>
    have key : ∀ w : Value, zm_n lv i = some (some w) → zm_n (lv.set i none) j = some (some v) → zm_n lv j = some (some v) ∧ ¬ (j + 1 = i + 1 ∧ v.category = 2) := by
      intro w hw hj
      rw [zm_n_eq] at hj hw ⊢
      by_cases e : i = j
      · subst e
        rw [List.getElem?_set_self (List.getElem?_eq_some_iff.mp hw).1] at hj
        cases hj
      · rw [List.getElem?_set_ne e] at hj
        exact ⟨hj, fun q => e (by omega)⟩
    simp only [zm_k] at h
    split at h
    next x hx => exact key _ hx h
    next x hx => exact key _ hx h
    next h1 h2 =>
      refine ⟨h, fun q => ?_⟩
      have e : j = i := by omega
      subst e
      cases v with
      | long x => exact h1 x h
      | double x => exact h2 x h
      | _ => exact absurd q.2 (by simp [Value.category])
theorem zm_L.s1 {ad : Nat → Nat} {ls' : Array Slot} {nL i : Nat} {lv : List (Option Value)} {v : Value} {l : List (Nat × Value)} (hl : ∀ (i : Nat) (v : Value), zm_n lv i = some (some v) → (i, zm_v ad v) ∈ l) (h : lv_has ls' nL ((i, zm_v ad v) :: l.filter (fun q => !(q.1 == i) && !(q.1 + 1 == i && q.2.category == 2)))) : zm_L ad ls' nL (zm_s1 lv i v) := by
  refine ⟨h.1, h.2.1, fun j w hj => ?_⟩
  unfold zm_s1 at hj
  rw [zm_n_eq] at hj
  by_cases e : i = j
  · subst e
    by_cases hi : i < (zm_k lv i).length
    · rw [List.getElem?_set_self hi] at hj
      cases hj
      exact h.2.2 _ List.mem_cons_self
    · rw [List.getElem?_eq_none (by rw [List.length_set]; omega)] at hj
      cases hj
  · rw [List.getElem?_set_ne e, ← zm_n_eq] at hj
    obtain ⟨h1, h2⟩ := zm_k_get hj
    refine h.2.2 (j, zm_v ad w) (List.mem_cons_of_mem _ (List.mem_filter.mpr ⟨hl j w h1, ?_⟩))
    simp only [zm_v_cat, Bool.and_eq_true, Bool.not_eq_true', beq_eq_false_iff_ne, Bool.and_eq_false_iff, ne_eq]
    refine ⟨fun q => e q.symm, ?_⟩
    by_cases q1 : j + 1 = i
    · exact Or.inr fun q2 => h2 ⟨q1, q2⟩
    · exact Or.inl q1
theorem zm_L.s2 {ad : Nat → Nat} {ls' : Array Slot} {nL i : Nat} {lv : List (Option Value)} {v : Value} {l : List (Nat × Value)} (hl : ∀ (i : Nat) (v : Value), zm_n lv i = some (some v) → (i, zm_v ad v) ∈ l) (h : lv_has ls' nL ((i, zm_v ad v) :: l.filter (fun q => !(q.1 == i) && (!(q.1 == i + 1) && !(q.1 + 1 == i && q.2.category == 2))))) : zm_L ad ls' nL (zm_s2 lv i v) := by
  refine ⟨h.1, h.2.1, fun j w hj => ?_⟩
  unfold zm_s2 at hj
  rw [zm_n_eq] at hj
  by_cases e : i = j
  · subst e
    by_cases hi : i < ((zm_k lv i).set (i + 1) none).length
    · rw [List.getElem?_set_self hi] at hj
      cases hj
      exact h.2.2 _ List.mem_cons_self
    · rw [List.getElem?_eq_none (by rw [List.length_set]; omega)] at hj
      cases hj
  · rw [List.getElem?_set_ne e] at hj
    by_cases e2 : i + 1 = j
    · subst e2
      by_cases hi : i + 1 < (zm_k lv i).length
      · rw [List.getElem?_set_self hi] at hj
        cases hj
      · rw [List.getElem?_eq_none (by rw [List.length_set]; omega)] at hj
        cases hj
    · rw [List.getElem?_set_ne e2, ← zm_n_eq] at hj
      obtain ⟨h1, h2⟩ := zm_k_get hj
      refine h.2.2 (j, zm_v ad w) (List.mem_cons_of_mem _ (List.mem_filter.mpr ⟨hl j w h1, ?_⟩))
      simp only [zm_v_cat, Bool.and_eq_true, Bool.not_eq_true', beq_eq_false_iff_ne, Bool.and_eq_false_iff, ne_eq]
      refine ⟨fun q => e q.symm, fun q => e2 q.symm, ?_⟩
      by_cases q1 : j + 1 = i
      · exact Or.inr fun q2 => h2 ⟨q1, q2⟩
      · exact Or.inl q1
def zm_ft : Nat → FieldType
  | 0 => .int
  | 1 => .long
  | _ => .boolean
abbrev zm_tys (tc : Nat → ClassId) : List (ClassId × FieldType) := [(tc 0, .int), (tc 1, .long), (tc 2, .boolean)]
/-- a field's place, as the tables say it -/
def zm_okF (cl : List vw_C) (Ts nw : List Jvm.Cond) (own : String) (idx u w : Nat) : Prop := ∃ (C : String) (T : u_T) (N : Nat), cl[u]? = some (C, T, N) ∧ (∀ x ∈ u_ws C T N, x ∈ Ts) ∧ w < N ∧ (Jvm.Cond.fieldLink own idx (T w).1 (T w).2.1 (T w).2.2.1 ∈ Ts ∨ ∃ host, Jvm.Cond.fieldLinkNest own idx (T w).1 (T w).2.1 (T w).2.2.1 host ∈ nw)
def zm_okP (cl : List vw_C) (Ts nw : List Jvm.Cond) (own : String) (idx u w : Nat) (ty : FieldType) : Prop := zm_okF cl Ts nw own idx u w ∧ ∃ (C : String) (T : u_T) (N : Nat), cl[u]? = some (C, T, N) ∧ ∃ ty0 : Nat → FieldType, (∀ k, k < N → parseFieldDescriptor (T k).2.2.1 = some (ty0 k)) ∧ (∀ a, a < N → ∀ b, b < N → a ≠ b → (T a).2.1 ≠ (T b).2.1) ∧ (T w).2.2.2 = false ∧ parseFieldDescriptor (T w).2.2.1 = some ty
/-- from this place of the picture the machine comes to Q -/
def zm_G (p : Program) (l : Launch) (e : Env) (R : Room) (s : State) (m : MethodId) (args : Array Value) (below : List Frame) (meth : Method) (c : Code) (Q : State → Prop) (D : va_G) (cl : List vw_C) (tc : Nat → ClassId) (ad : Nat → Nat) (A : Nat → Prop) (nL L : Nat) (t : zm_S) : Prop :=
  ∀ (H : Heap) (locs : List Loc) (ls : Array Slot), zm_L ad ls nL t.2.1 → va_P D cl (zm_w tc ad 0 t.2.2.2) H → va_D A (zm_w tc ad 0 t.2.2.2) → va_S A s.heap H locs → t.2.2.2.length = L → W p l e R s m args below meth c H locs 0 0 Q (F0 m t.1 ls (t.2.2.1.map (zm_v ad)))
section ZMG
variable {p : Program} {l : Launch} {e : Env} {R : Room} {s : State} {m : MethodId} {args : Array Value} {below : List Frame} {meth : Method} {c : Code} {Q : State → Prop} {D : va_G} {cl : List vw_C} {tc : Nat → ClassId} {ad : Nat → Nat} {A : Nat → Prop} {nL L : Nat}
variable {cc : ByteArray} {pc : Nat} {lv : List (Option Value)} {st : List Value} {ws : List zm_E} {ev : Nat → List Value → List zm_E → Option Value → List zm_E → Prop} {v0 : Option Value} {w0 : List zm_E}
variable {k off d lo hi : Int} {offs : Array Int} {kf : Fin 2} {kk : Fin 4} {u w z idx len : Nat} {x y : Int32} {xl : Int64} {own : String} {Ts nw : List Jvm.Cond} {ty : FieldType}

theorem zg_iconst (hx : p.tables.exec = Jvm.exec) (hb : c.code = cc) (hd : decode cc pc = .ok (.iconst k, 1)) (hv : Int32.ofInt k = x) (h : zm_o ev (zm_G p l e R s m args below meth c Q D cl tc ad A nL L) v0 w0 (zm_r0 (pc + 1, lv, .int x :: st, ws))) : zm_G p l e R s m args below meth c Q D cl tc ad A nL L (pc, lv, st, ws) := by
  intro H locs ls hL hP hD hS hn
  exact lv_iconst hx hb hd hv (h.2 H locs ls hL hP hD hS hn)
theorem zg_bipush (hx : p.tables.exec = Jvm.exec) (hb : c.code = cc) (hd : decode cc pc = .ok (.bipush k, 2)) (hv : (Int8.ofInt k).toInt32 = x) (h : zm_o ev (zm_G p l e R s m args below meth c Q D cl tc ad A nL L) v0 w0 (zm_r0 (pc + 2, lv, .int x :: st, ws))) : zm_G p l e R s m args below meth c Q D cl tc ad A nL L (pc, lv, st, ws) := by
  intro H locs ls hL hP hD hS hn
  exact lv_bipush hx hb hd hv (h.2 H locs ls hL hP hD hS hn)
theorem zg_sipush (hx : p.tables.exec = Jvm.exec) (hb : c.code = cc) (hd : decode cc pc = .ok (.sipush k, 3)) (hv : (Int16.ofInt k).toInt32 = x) (h : zm_o ev (zm_G p l e R s m args below meth c Q D cl tc ad A nL L) v0 w0 (zm_r0 (pc + 3, lv, .int x :: st, ws))) : zm_G p l e R s m args below meth c Q D cl tc ad A nL L (pc, lv, st, ws) := by
  intro H locs ls hL hP hD hS hn
  exact lv_sipush hx hb hd hv (h.2 H locs ls hL hP hD hS hn)
theorem zg_lconst (hx : p.tables.exec = Jvm.exec) (hb : c.code = cc) (hd : decode cc pc = .ok (.lconst kf, 1)) (hv : Int64.ofNat (kf : Nat) = xl) (h : zm_o ev (zm_G p l e R s m args below meth c Q D cl tc ad A nL L) v0 w0 (zm_r0 (pc + 1, lv, .long xl :: st, ws))) : zm_G p l e R s m args below meth c Q D cl tc ad A nL L (pc, lv, st, ws) := by
  intro H locs ls hL hP hD hS hn
  exact lv_lconst hx hb hd hv (h.2 H locs ls hL hP hD hS hn)
theorem zg_ldc (hx : p.tables.exec = Jvm.exec) (hb : c.code = cc) (hd : decode cc pc = .ok (.ldc idx, 2)) (hown : s.vm.findClass own = some m.cls) (hc : (Jvm.Cond.constant own idx x).before args s = true) (h : zm_o ev (zm_G p l e R s m args below meth c Q D cl tc ad A nL L) v0 w0 (zm_r0 (pc + 2, lv, .int x :: st, ws))) : zm_G p l e R s m args below meth c Q D cl tc ad A nL L (pc, lv, st, ws) := by
  intro H locs ls hL hP hD hS hn
  exact lv_ldc hx hb hown hc hd (h.2 H locs ls hL hP hD hS hn)
theorem zg_ldc_w (hx : p.tables.exec = Jvm.exec) (hb : c.code = cc) (hd : decode cc pc = .ok (.ldc_w idx, 3)) (hown : s.vm.findClass own = some m.cls) (hc : (Jvm.Cond.constant own idx x).before args s = true) (h : zm_o ev (zm_G p l e R s m args below meth c Q D cl tc ad A nL L) v0 w0 (zm_r0 (pc + 3, lv, .int x :: st, ws))) : zm_G p l e R s m args below meth c Q D cl tc ad A nL L (pc, lv, st, ws) := by
  intro H locs ls hL hP hD hS hn
  exact lv_ldcw hx hb hown hc hd (h.2 H locs ls hL hP hD hS hn)
theorem zg_ldc2 (hx : p.tables.exec = Jvm.exec) (hb : c.code = cc) (hd : decode cc pc = .ok (.ldc2_w idx, 3)) (hown : s.vm.findClass own = some m.cls) (hc : (Jvm.Cond.constantLong own idx xl).before args s = true) (h : zm_o ev (zm_G p l e R s m args below meth c Q D cl tc ad A nL L) v0 w0 (zm_r0 (pc + 3, lv, .long xl :: st, ws))) : zm_G p l e R s m args below meth c Q D cl tc ad A nL L (pc, lv, st, ws) := by
  intro H locs ls hL hP hD hS hn
  exact lv_ldc2 hx hb hown hc hd (h.2 H locs ls hL hP hD hS hn)
theorem zg_iload_n (hx : p.tables.exec = Jvm.exec) (hb : c.code = cc) (hd : decode cc pc = .ok (.iload_n kk, 1)) (hu : (kk : Nat) = u) (h : zm_o ev (zm_G p l e R s m args below meth c Q D cl tc ad A nL L) v0 w0 (zm_xld (pc + 1) lv ws st 0 (zm_n lv u))) : zm_G p l e R s m args below meth c Q D cl tc ad A nL L (pc, lv, st, ws) := by
  rcases hq : zm_n lv u with _ | _ | v
  · rw [hq] at h; exact (show False from h).elim
  · rw [hq] at h; exact (show False from h).elim
  · rw [hq] at h
    cases v with
    | int x =>
      intro H locs ls hL hP hD hS hn
      exact lv_iload_n hx hb hd hu (hL.2.2 u _ hq) ((show True ∧ zm_G p l e R s m args below meth c Q D cl tc ad A nL L (pc + 1, lv, .int x :: st, ws) from h).2 H locs ls hL hP hD hS hn)
    | _ => exact (show False from h).elim
theorem zg_iload (hx : p.tables.exec = Jvm.exec) (hb : c.code = cc) (hd : decode cc pc = .ok (.iload u, 2))  (h : zm_o ev (zm_G p l e R s m args below meth c Q D cl tc ad A nL L) v0 w0 (zm_xld (pc + 2) lv ws st 0 (zm_n lv u))) : zm_G p l e R s m args below meth c Q D cl tc ad A nL L (pc, lv, st, ws) := by
  rcases hq : zm_n lv u with _ | _ | v
  · rw [hq] at h; exact (show False from h).elim
  · rw [hq] at h; exact (show False from h).elim
  · rw [hq] at h
    cases v with
    | int x =>
      intro H locs ls hL hP hD hS hn
      exact lv_iload hx hb hd (hL.2.2 u _ hq) ((show True ∧ zm_G p l e R s m args below meth c Q D cl tc ad A nL L (pc + 2, lv, .int x :: st, ws) from h).2 H locs ls hL hP hD hS hn)
    | _ => exact (show False from h).elim
theorem zg_lload_n (hx : p.tables.exec = Jvm.exec) (hb : c.code = cc) (hd : decode cc pc = .ok (.lload_n kk, 1)) (hu : (kk : Nat) = u) (h : zm_o ev (zm_G p l e R s m args below meth c Q D cl tc ad A nL L) v0 w0 (zm_xld (pc + 1) lv ws st 1 (zm_n lv u))) : zm_G p l e R s m args below meth c Q D cl tc ad A nL L (pc, lv, st, ws) := by
  rcases hq : zm_n lv u with _ | _ | v
  · rw [hq] at h; exact (show False from h).elim
  · rw [hq] at h; exact (show False from h).elim
  · rw [hq] at h
    cases v with
    | long x =>
      intro H locs ls hL hP hD hS hn
      exact lv_lload_n hx hb hd hu (hL.2.2 u _ hq) ((show True ∧ zm_G p l e R s m args below meth c Q D cl tc ad A nL L (pc + 1, lv, .long x :: st, ws) from h).2 H locs ls hL hP hD hS hn)
    | _ => exact (show False from h).elim
theorem zg_lload (hx : p.tables.exec = Jvm.exec) (hb : c.code = cc) (hd : decode cc pc = .ok (.lload u, 2))  (h : zm_o ev (zm_G p l e R s m args below meth c Q D cl tc ad A nL L) v0 w0 (zm_xld (pc + 2) lv ws st 1 (zm_n lv u))) : zm_G p l e R s m args below meth c Q D cl tc ad A nL L (pc, lv, st, ws) := by
  rcases hq : zm_n lv u with _ | _ | v
  · rw [hq] at h; exact (show False from h).elim
  · rw [hq] at h; exact (show False from h).elim
  · rw [hq] at h
    cases v with
    | long x =>
      intro H locs ls hL hP hD hS hn
      exact lv_lload hx hb hd (hL.2.2 u _ hq) ((show True ∧ zm_G p l e R s m args below meth c Q D cl tc ad A nL L (pc + 2, lv, .long x :: st, ws) from h).2 H locs ls hL hP hD hS hn)
    | _ => exact (show False from h).elim
theorem zg_aload_n (hx : p.tables.exec = Jvm.exec) (hb : c.code = cc) (hd : decode cc pc = .ok (.aload_n kk, 1)) (hu : (kk : Nat) = u) (h : zm_o ev (zm_G p l e R s m args below meth c Q D cl tc ad A nL L) v0 w0 (zm_xld (pc + 1) lv ws st 2 (zm_n lv u))) : zm_G p l e R s m args below meth c Q D cl tc ad A nL L (pc, lv, st, ws) := by
  rcases hq : zm_n lv u with _ | _ | v
  · rw [hq] at h; exact (show False from h).elim
  · rw [hq] at h; exact (show False from h).elim
  · rw [hq] at h
    cases v with
    | ref x =>
      intro H locs ls hL hP hD hS hn
      exact lv_aload_n hx hb hd hu (hL.2.2 u _ hq) ((show True ∧ zm_G p l e R s m args below meth c Q D cl tc ad A nL L (pc + 1, lv, .ref x :: st, ws) from h).2 H locs ls hL hP hD hS hn)
    | _ => exact (show False from h).elim
theorem zg_aload (hx : p.tables.exec = Jvm.exec) (hb : c.code = cc) (hd : decode cc pc = .ok (.aload u, 2))  (h : zm_o ev (zm_G p l e R s m args below meth c Q D cl tc ad A nL L) v0 w0 (zm_xld (pc + 2) lv ws st 2 (zm_n lv u))) : zm_G p l e R s m args below meth c Q D cl tc ad A nL L (pc, lv, st, ws) := by
  rcases hq : zm_n lv u with _ | _ | v
  · rw [hq] at h; exact (show False from h).elim
  · rw [hq] at h; exact (show False from h).elim
  · rw [hq] at h
    cases v with
    | ref x =>
      intro H locs ls hL hP hD hS hn
      exact lv_aload hx hb hd (hL.2.2 u _ hq) ((show True ∧ zm_G p l e R s m args below meth c Q D cl tc ad A nL L (pc + 2, lv, .ref x :: st, ws) from h).2 H locs ls hL hP hD hS hn)
    | _ => exact (show False from h).elim
theorem zg_istore_n (hx : p.tables.exec = Jvm.exec) (hb : c.code = cc) (hd : decode cc pc = .ok (.istore_n kk, 1)) (hu : (kk : Nat) = u) (hb2 : u < nL) (h : zm_o ev (zm_G p l e R s m args below meth c Q D cl tc ad A nL L) v0 w0 (zm_xsi (pc + 1) lv ws u st)) : zm_G p l e R s m args below meth c Q D cl tc ad A nL L (pc, lv, st, ws) := by
  unfold zm_xsi at h
  split at h
  next x r =>
    intro H locs ls hL hP hD hS hn
    obtain ⟨lst, hhas, hmem⟩ := hL.list
    exact lv_istore_n hx hb hd hu hhas hb2 rfl (fun ls' hl' => h.2 H locs ls' (zm_L.s1 (v := .int x) hmem hl') hP hD hS hn)
  next => exact h.elim
theorem zg_istore (hx : p.tables.exec = Jvm.exec) (hb : c.code = cc) (hd : decode cc pc = .ok (.istore u, 2))  (hb2 : u < nL) (h : zm_o ev (zm_G p l e R s m args below meth c Q D cl tc ad A nL L) v0 w0 (zm_xsi (pc + 2) lv ws u st)) : zm_G p l e R s m args below meth c Q D cl tc ad A nL L (pc, lv, st, ws) := by
  unfold zm_xsi at h
  split at h
  next x r =>
    intro H locs ls hL hP hD hS hn
    obtain ⟨lst, hhas, hmem⟩ := hL.list
    exact lv_istore hx hb hd hhas hb2 rfl (fun ls' hl' => h.2 H locs ls' (zm_L.s1 (v := .int x) hmem hl') hP hD hS hn)
  next => exact h.elim
theorem zg_lstore_n (hx : p.tables.exec = Jvm.exec) (hb : c.code = cc) (hd : decode cc pc = .ok (.lstore_n kk, 1)) (hu : (kk : Nat) = u) (hb2 : u + 1 < nL) (h : zm_o ev (zm_G p l e R s m args below meth c Q D cl tc ad A nL L) v0 w0 (zm_xsl (pc + 1) lv ws u st)) : zm_G p l e R s m args below meth c Q D cl tc ad A nL L (pc, lv, st, ws) := by
  unfold zm_xsl at h
  split at h
  next x r =>
    intro H locs ls hL hP hD hS hn
    obtain ⟨lst, hhas, hmem⟩ := hL.list
    exact lv_lstore_n hx hb hd hu hhas hb2 rfl (fun ls' hl' => h.2 H locs ls' (zm_L.s2 (v := .long x) hmem hl') hP hD hS hn)
  next => exact h.elim
theorem zg_lstore (hx : p.tables.exec = Jvm.exec) (hb : c.code = cc) (hd : decode cc pc = .ok (.lstore u, 2))  (hb2 : u + 1 < nL) (h : zm_o ev (zm_G p l e R s m args below meth c Q D cl tc ad A nL L) v0 w0 (zm_xsl (pc + 2) lv ws u st)) : zm_G p l e R s m args below meth c Q D cl tc ad A nL L (pc, lv, st, ws) := by
  unfold zm_xsl at h
  split at h
  next x r =>
    intro H locs ls hL hP hD hS hn
    obtain ⟨lst, hhas, hmem⟩ := hL.list
    exact lv_lstore hx hb hd hhas hb2 rfl (fun ls' hl' => h.2 H locs ls' (zm_L.s2 (v := .long x) hmem hl') hP hD hS hn)
  next => exact h.elim
theorem zg_astore_n (hx : p.tables.exec = Jvm.exec) (hb : c.code = cc) (hd : decode cc pc = .ok (.astore_n kk, 1)) (hu : (kk : Nat) = u) (hb2 : u < nL) (h : zm_o ev (zm_G p l e R s m args below meth c Q D cl tc ad A nL L) v0 w0 (zm_xsa (pc + 1) lv ws u st)) : zm_G p l e R s m args below meth c Q D cl tc ad A nL L (pc, lv, st, ws) := by
  unfold zm_xsa at h
  split at h
  next x r =>
    intro H locs ls hL hP hD hS hn
    obtain ⟨lst, hhas, hmem⟩ := hL.list
    exact lv_astore_n hx hb hd hu hhas hb2 rfl (fun ls' hl' => h.2 H locs ls' (zm_L.s1 (v := .ref x) hmem hl') hP hD hS hn)
  next => exact h.elim
theorem zg_astore (hx : p.tables.exec = Jvm.exec) (hb : c.code = cc) (hd : decode cc pc = .ok (.astore u, 2))  (hb2 : u < nL) (h : zm_o ev (zm_G p l e R s m args below meth c Q D cl tc ad A nL L) v0 w0 (zm_xsa (pc + 2) lv ws u st)) : zm_G p l e R s m args below meth c Q D cl tc ad A nL L (pc, lv, st, ws) := by
  unfold zm_xsa at h
  split at h
  next x r =>
    intro H locs ls hL hP hD hS hn
    obtain ⟨lst, hhas, hmem⟩ := hL.list
    exact lv_astore hx hb hd hhas hb2 rfl (fun ls' hl' => h.2 H locs ls' (zm_L.s1 (v := .ref x) hmem hl') hP hD hS hn)
  next => exact h.elim
theorem zg_iinc (hx : p.tables.exec = Jvm.exec) (hb : c.code = cc) (hd : decode cc pc = .ok (.iinc u k, 3)) (hv : Int32.ofInt k = y) (hb2 : u < nL) (h : zm_o ev (zm_G p l e R s m args below meth c Q D cl tc ad A nL L) v0 w0 (zm_xinc (pc + 3) lv ws st u y (zm_n lv u))) : zm_G p l e R s m args below meth c Q D cl tc ad A nL L (pc, lv, st, ws) := by
  rcases hq : zm_n lv u with _ | _ | v
  · rw [hq] at h; exact (show False from h).elim
  · rw [hq] at h; exact (show False from h).elim
  · rw [hq] at h
    cases v with
    | int x =>
      intro H locs ls hL hP hD hS hn
      obtain ⟨lst, hhas, hmem⟩ := hL.list
      obtain ⟨j, hj⟩ := List.getElem?_of_mem (hmem u _ hq)
      exact lv_iinc hx hb hd hhas hj (by rw [hv]) hb2 rfl (fun ls' hl' => (show True ∧ zm_G p l e R s m args below meth c Q D cl tc ad A nL L (pc + 3, zm_s1 lv u (.int (x + y)), st, ws) from h).2 H locs ls' (zm_L.s1 (v := .int (x + y)) hmem hl') hP hD hS hn)
    | _ => exact (show False from h).elim
theorem zg_iadd (hx : p.tables.exec = Jvm.exec) (hb : c.code = cc) (hd : decode cc pc = .ok (.iadd, 1)) (h : zm_o ev (zm_G p l e R s m args below meth c Q D cl tc ad A nL L) v0 w0 (zm_xi2 (pc + 1) lv ws (fun x y => x + y) st)) : zm_G p l e R s m args below meth c Q D cl tc ad A nL L (pc, lv, st, ws) := by
  unfold zm_xi2 at h
  split at h
  next y x r =>
    intro H locs ls hL hP hD hS hn
    exact lv_iadd hx hb hd (h.2 H locs ls hL hP hD hS hn)
  next => exact h.elim
theorem zg_isub (hx : p.tables.exec = Jvm.exec) (hb : c.code = cc) (hd : decode cc pc = .ok (.isub, 1)) (h : zm_o ev (zm_G p l e R s m args below meth c Q D cl tc ad A nL L) v0 w0 (zm_xi2 (pc + 1) lv ws (fun x y => x - y) st)) : zm_G p l e R s m args below meth c Q D cl tc ad A nL L (pc, lv, st, ws) := by
  unfold zm_xi2 at h
  split at h
  next y x r =>
    intro H locs ls hL hP hD hS hn
    exact lv_isub hx hb hd (h.2 H locs ls hL hP hD hS hn)
  next => exact h.elim
theorem zg_imul (hx : p.tables.exec = Jvm.exec) (hb : c.code = cc) (hd : decode cc pc = .ok (.imul, 1)) (h : zm_o ev (zm_G p l e R s m args below meth c Q D cl tc ad A nL L) v0 w0 (zm_xi2 (pc + 1) lv ws (fun x y => x * y) st)) : zm_G p l e R s m args below meth c Q D cl tc ad A nL L (pc, lv, st, ws) := by
  unfold zm_xi2 at h
  split at h
  next y x r =>
    intro H locs ls hL hP hD hS hn
    exact lv_imul hx hb hd (h.2 H locs ls hL hP hD hS hn)
  next => exact h.elim
theorem zg_iand (hx : p.tables.exec = Jvm.exec) (hb : c.code = cc) (hd : decode cc pc = .ok (.iand, 1)) (h : zm_o ev (zm_G p l e R s m args below meth c Q D cl tc ad A nL L) v0 w0 (zm_xi2 (pc + 1) lv ws (fun x y => x &&& y) st)) : zm_G p l e R s m args below meth c Q D cl tc ad A nL L (pc, lv, st, ws) := by
  unfold zm_xi2 at h
  split at h
  next y x r =>
    intro H locs ls hL hP hD hS hn
    exact lv_iand hx hb hd (h.2 H locs ls hL hP hD hS hn)
  next => exact h.elim
theorem zg_ishl (hx : p.tables.exec = Jvm.exec) (hb : c.code = cc) (hd : decode cc pc = .ok (.ishl, 1)) (h : zm_o ev (zm_G p l e R s m args below meth c Q D cl tc ad A nL L) v0 w0 (zm_xi2 (pc + 1) lv ws (fun x y => x <<< (y &&& 31)) st)) : zm_G p l e R s m args below meth c Q D cl tc ad A nL L (pc, lv, st, ws) := by
  unfold zm_xi2 at h
  split at h
  next y x r =>
    intro H locs ls hL hP hD hS hn
    exact lv_ishl hx hb hd (h.2 H locs ls hL hP hD hS hn)
  next => exact h.elim
theorem zg_idiv (hx : p.tables.exec = Jvm.exec) (hb : c.code = cc) (hd : decode cc pc = .ok (.idiv, 1)) (h : zm_o ev (zm_G p l e R s m args below meth c Q D cl tc ad A nL L) v0 w0 (zm_xd2 (pc + 1) lv ws (fun x y => x / y) st)) : zm_G p l e R s m args below meth c Q D cl tc ad A nL L (pc, lv, st, ws) := by
  unfold zm_xd2 at h
  split at h
  next y x r =>
    intro H locs ls hL hP hD hS hn
    exact lv_idiv hx hb hd h.1 (h.2 H locs ls hL hP hD hS hn)
  next => exact h.elim
theorem zg_irem (hx : p.tables.exec = Jvm.exec) (hb : c.code = cc) (hd : decode cc pc = .ok (.irem, 1)) (h : zm_o ev (zm_G p l e R s m args below meth c Q D cl tc ad A nL L) v0 w0 (zm_xd2 (pc + 1) lv ws (fun x y => x - x / y * y) st)) : zm_G p l e R s m args below meth c Q D cl tc ad A nL L (pc, lv, st, ws) := by
  unfold zm_xd2 at h
  split at h
  next y x r =>
    intro H locs ls hL hP hD hS hn
    exact lv_irem hx hb hd h.1 (h.2 H locs ls hL hP hD hS hn)
  next => exact h.elim
theorem zg_ladd (hx : p.tables.exec = Jvm.exec) (hb : c.code = cc) (hd : decode cc pc = .ok (.ladd, 1)) (h : zm_o ev (zm_G p l e R s m args below meth c Q D cl tc ad A nL L) v0 w0 (zm_xl2 (pc + 1) lv ws (fun x y => x + y) st)) : zm_G p l e R s m args below meth c Q D cl tc ad A nL L (pc, lv, st, ws) := by
  unfold zm_xl2 at h
  split at h
  next y x r =>
    intro H locs ls hL hP hD hS hn
    exact lv_ladd hx hb hd (h.2 H locs ls hL hP hD hS hn)
  next => exact h.elim
theorem zg_lsub (hx : p.tables.exec = Jvm.exec) (hb : c.code = cc) (hd : decode cc pc = .ok (.lsub, 1)) (h : zm_o ev (zm_G p l e R s m args below meth c Q D cl tc ad A nL L) v0 w0 (zm_xl2 (pc + 1) lv ws (fun x y => x - y) st)) : zm_G p l e R s m args below meth c Q D cl tc ad A nL L (pc, lv, st, ws) := by
  unfold zm_xl2 at h
  split at h
  next y x r =>
    intro H locs ls hL hP hD hS hn
    exact lv_lsub hx hb hd (h.2 H locs ls hL hP hD hS hn)
  next => exact h.elim
theorem zg_lmul (hx : p.tables.exec = Jvm.exec) (hb : c.code = cc) (hd : decode cc pc = .ok (.lmul, 1)) (h : zm_o ev (zm_G p l e R s m args below meth c Q D cl tc ad A nL L) v0 w0 (zm_xl2 (pc + 1) lv ws (fun x y => x * y) st)) : zm_G p l e R s m args below meth c Q D cl tc ad A nL L (pc, lv, st, ws) := by
  unfold zm_xl2 at h
  split at h
  next y x r =>
    intro H locs ls hL hP hD hS hn
    exact lv_lmul hx hb hd (h.2 H locs ls hL hP hD hS hn)
  next => exact h.elim
theorem zg_land (hx : p.tables.exec = Jvm.exec) (hb : c.code = cc) (hd : decode cc pc = .ok (.land, 1)) (h : zm_o ev (zm_G p l e R s m args below meth c Q D cl tc ad A nL L) v0 w0 (zm_xl2 (pc + 1) lv ws (fun x y => x &&& y) st)) : zm_G p l e R s m args below meth c Q D cl tc ad A nL L (pc, lv, st, ws) := by
  unfold zm_xl2 at h
  split at h
  next y x r =>
    intro H locs ls hL hP hD hS hn
    exact lv_land hx hb hd (h.2 H locs ls hL hP hD hS hn)
  next => exact h.elim
theorem zg_lor (hx : p.tables.exec = Jvm.exec) (hb : c.code = cc) (hd : decode cc pc = .ok (.lor, 1)) (h : zm_o ev (zm_G p l e R s m args below meth c Q D cl tc ad A nL L) v0 w0 (zm_xl2 (pc + 1) lv ws (fun x y => x ||| y) st)) : zm_G p l e R s m args below meth c Q D cl tc ad A nL L (pc, lv, st, ws) := by
  unfold zm_xl2 at h
  split at h
  next y x r =>
    intro H locs ls hL hP hD hS hn
    exact lv_lor hx hb hd (h.2 H locs ls hL hP hD hS hn)
  next => exact h.elim
theorem zg_lxor (hx : p.tables.exec = Jvm.exec) (hb : c.code = cc) (hd : decode cc pc = .ok (.lxor, 1)) (h : zm_o ev (zm_G p l e R s m args below meth c Q D cl tc ad A nL L) v0 w0 (zm_xl2 (pc + 1) lv ws (fun x y => x ^^^ y) st)) : zm_G p l e R s m args below meth c Q D cl tc ad A nL L (pc, lv, st, ws) := by
  unfold zm_xl2 at h
  split at h
  next y x r =>
    intro H locs ls hL hP hD hS hn
    exact lv_lxor hx hb hd (h.2 H locs ls hL hP hD hS hn)
  next => exact h.elim
theorem zg_ldiv (hx : p.tables.exec = Jvm.exec) (hb : c.code = cc) (hd : decode cc pc = .ok (.ldiv, 1)) (h : zm_o ev (zm_G p l e R s m args below meth c Q D cl tc ad A nL L) v0 w0 (zm_xm2 (pc + 1) lv ws (fun x y => x / y) st)) : zm_G p l e R s m args below meth c Q D cl tc ad A nL L (pc, lv, st, ws) := by
  unfold zm_xm2 at h
  split at h
  next y x r =>
    intro H locs ls hL hP hD hS hn
    exact lv_ldiv hx hb hd h.1 (h.2 H locs ls hL hP hD hS hn)
  next => exact h.elim
theorem zg_lrem (hx : p.tables.exec = Jvm.exec) (hb : c.code = cc) (hd : decode cc pc = .ok (.lrem, 1)) (h : zm_o ev (zm_G p l e R s m args below meth c Q D cl tc ad A nL L) v0 w0 (zm_xm2 (pc + 1) lv ws (fun x y => x - x / y * y) st)) : zm_G p l e R s m args below meth c Q D cl tc ad A nL L (pc, lv, st, ws) := by
  unfold zm_xm2 at h
  split at h
  next y x r =>
    intro H locs ls hL hP hD hS hn
    exact lv_lrem hx hb hd h.1 (h.2 H locs ls hL hP hD hS hn)
  next => exact h.elim
theorem zg_lshl (hx : p.tables.exec = Jvm.exec) (hb : c.code = cc) (hd : decode cc pc = .ok (.lshl, 1)) (h : zm_o ev (zm_G p l e R s m args below meth c Q D cl tc ad A nL L) v0 w0 (zm_xs2 (pc + 1) lv ws (fun x y => x <<< (y.toInt64 &&& 63)) st)) : zm_G p l e R s m args below meth c Q D cl tc ad A nL L (pc, lv, st, ws) := by
  unfold zm_xs2 at h
  split at h
  next y x r =>
    intro H locs ls hL hP hD hS hn
    exact lv_lshl hx hb hd rfl (h.2 H locs ls hL hP hD hS hn)
  next => exact h.elim
theorem zg_lshr (hx : p.tables.exec = Jvm.exec) (hb : c.code = cc) (hd : decode cc pc = .ok (.lshr, 1)) (h : zm_o ev (zm_G p l e R s m args below meth c Q D cl tc ad A nL L) v0 w0 (zm_xs2 (pc + 1) lv ws (fun x y => x >>> (y.toInt64 &&& 63)) st)) : zm_G p l e R s m args below meth c Q D cl tc ad A nL L (pc, lv, st, ws) := by
  unfold zm_xs2 at h
  split at h
  next y x r =>
    intro H locs ls hL hP hD hS hn
    exact lv_lshr hx hb hd rfl (h.2 H locs ls hL hP hD hS hn)
  next => exact h.elim
theorem zg_lushr (hx : p.tables.exec = Jvm.exec) (hb : c.code = cc) (hd : decode cc pc = .ok (.lushr, 1)) (h : zm_o ev (zm_G p l e R s m args below meth c Q D cl tc ad A nL L) v0 w0 (zm_xs2 (pc + 1) lv ws (fun x y => (x.toUInt64 >>> (y.toInt64.toUInt64 &&& Int64.toUInt64 63)).toInt64) st)) : zm_G p l e R s m args below meth c Q D cl tc ad A nL L (pc, lv, st, ws) := by
  unfold zm_xs2 at h
  split at h
  next y x r =>
    intro H locs ls hL hP hD hS hn
    exact lv_lushr hx hb hd rfl (h.2 H locs ls hL hP hD hS hn)
  next => exact h.elim
theorem zg_ineg (hx : p.tables.exec = Jvm.exec) (hb : c.code = cc) (hd : decode cc pc = .ok (.ineg, 1)) (h : zm_o ev (zm_G p l e R s m args below meth c Q D cl tc ad A nL L) v0 w0 (zm_x1 (pc + 1) lv ws (fun x => -x) st)) : zm_G p l e R s m args below meth c Q D cl tc ad A nL L (pc, lv, st, ws) := by
  unfold zm_x1 at h
  split at h
  next x r =>
    intro H locs ls hL hP hD hS hn
    exact lv_ineg hx hb hd (h.2 H locs ls hL hP hD hS hn)
  next => exact h.elim
theorem zg_lneg (hx : p.tables.exec = Jvm.exec) (hb : c.code = cc) (hd : decode cc pc = .ok (.lneg, 1)) (h : zm_o ev (zm_G p l e R s m args below meth c Q D cl tc ad A nL L) v0 w0 (zm_x1l (pc + 1) lv ws (fun x => -x) st)) : zm_G p l e R s m args below meth c Q D cl tc ad A nL L (pc, lv, st, ws) := by
  unfold zm_x1l at h
  split at h
  next x r =>
    intro H locs ls hL hP hD hS hn
    exact lv_lneg hx hb hd (h.2 H locs ls hL hP hD hS hn)
  next => exact h.elim
theorem zg_i2l (hx : p.tables.exec = Jvm.exec) (hb : c.code = cc) (hd : decode cc pc = .ok (.i2l, 1)) (h : zm_o ev (zm_G p l e R s m args below meth c Q D cl tc ad A nL L) v0 w0 (zm_xi2l (pc + 1) lv ws st)) : zm_G p l e R s m args below meth c Q D cl tc ad A nL L (pc, lv, st, ws) := by
  unfold zm_xi2l at h
  split at h
  next x r =>
    intro H locs ls hL hP hD hS hn
    exact lv_i2l hx hb hd rfl (h.2 H locs ls hL hP hD hS hn)
  next => exact h.elim
theorem zg_l2i (hx : p.tables.exec = Jvm.exec) (hb : c.code = cc) (hd : decode cc pc = .ok (.l2i, 1)) (h : zm_o ev (zm_G p l e R s m args below meth c Q D cl tc ad A nL L) v0 w0 (zm_xl2i (pc + 1) lv ws st)) : zm_G p l e R s m args below meth c Q D cl tc ad A nL L (pc, lv, st, ws) := by
  unfold zm_xl2i at h
  split at h
  next x r =>
    intro H locs ls hL hP hD hS hn
    exact lv_l2i hx hb hd rfl (h.2 H locs ls hL hP hD hS hn)
  next => exact h.elim
theorem zg_lcmp (hx : p.tables.exec = Jvm.exec) (hb : c.code = cc) (hd : decode cc pc = .ok (.lcmp, 1)) (h : zm_o ev (zm_G p l e R s m args below meth c Q D cl tc ad A nL L) v0 w0 (zm_xcmp (pc + 1) lv ws st)) : zm_G p l e R s m args below meth c Q D cl tc ad A nL L (pc, lv, st, ws) := by
  unfold zm_xcmp at h
  split at h
  next y x r =>
    intro H locs ls hL hP hD hS hn
    exact W.lcmp hx hb hd (h.2 H locs ls hL hP hD hS hn)
  next => exact h.elim
theorem zg_dup (hx : p.tables.exec = Jvm.exec) (hb : c.code = cc) (hd : decode cc pc = .ok (.dup, 1)) (h : zm_o ev (zm_G p l e R s m args below meth c Q D cl tc ad A nL L) v0 w0 (zm_dup (pc + 1) lv ws st)) : zm_G p l e R s m args below meth c Q D cl tc ad A nL L (pc, lv, st, ws) := by
  unfold zm_dup at h
  split at h
  next a r =>
    cases hc : Nat.beq a.category 1 with
    | true =>
      rw [hc] at h
      intro H locs ls hL hP hD hS hn
      exact lv_dup hx hb hd (by rw [zm_v_cat]; exact Nat.eq_of_beq_eq_true hc) (h.2 H locs ls hL hP hD hS hn)
    | false => rw [hc] at h; exact (show False from h).elim
  next => exact h.elim
theorem zg_dup2 (hx : p.tables.exec = Jvm.exec) (hb : c.code = cc) (hd : decode cc pc = .ok (.dup2, 1)) (h : zm_o ev (zm_G p l e R s m args below meth c Q D cl tc ad A nL L) v0 w0 (zm_dup2 (pc + 1) lv ws st)) : zm_G p l e R s m args below meth c Q D cl tc ad A nL L (pc, lv, st, ws) := by
  unfold zm_dup2 at h
  split at h
  next a b r =>
    cases hc : Nat.beq a.category 1 with
    | true =>
      rw [hc] at h
      cases hc2 : Nat.beq b.category 1 with
      | true =>
        rw [hc2] at h
        intro H locs ls hL hP hD hS hn
        exact lv_dup2_11 hx hb hd (by rw [zm_v_cat]; exact Nat.eq_of_beq_eq_true hc) (by rw [zm_v_cat]; exact Nat.eq_of_beq_eq_true hc2) (h.2 H locs ls hL hP hD hS hn)
      | false => rw [hc2] at h; exact (show False from h).elim
    | false => rw [hc] at h; exact (show False from h).elim
  next => exact h.elim
theorem zg_if_eq (hx : p.tables.exec = Jvm.exec) (hb : c.code = cc) (hd : decode cc pc = .ok (.ifCond .eq off, 3)) (ht : (pc : Int) + off = (u : Int)) (h : zm_o ev (zm_G p l e R s m args below meth c Q D cl tc ad A nL L) v0 w0 (zm_b1 (pc + 3) lv ws (fun x => x = 0) u st)) : zm_G p l e R s m args below meth c Q D cl tc ad A nL L (pc, lv, st, ws) := by
  unfold zm_b1 at h
  split at h
  next x r =>
    intro H locs ls hL hP hD hS hn
    exact lv_if_eq hx hb hd ht (fun hc => h.elim (fun q => q.2 H locs ls hL hP hD hS hn) (fun q => absurd hc q.1)) (fun hc => h.elim (fun q => absurd q.1 hc) (fun q => q.2 H locs ls hL hP hD hS hn))
  next => exact h.elim
theorem zg_if_lt (hx : p.tables.exec = Jvm.exec) (hb : c.code = cc) (hd : decode cc pc = .ok (.ifCond .lt off, 3)) (ht : (pc : Int) + off = (u : Int)) (h : zm_o ev (zm_G p l e R s m args below meth c Q D cl tc ad A nL L) v0 w0 (zm_b1 (pc + 3) lv ws (fun x => x < 0) u st)) : zm_G p l e R s m args below meth c Q D cl tc ad A nL L (pc, lv, st, ws) := by
  unfold zm_b1 at h
  split at h
  next x r =>
    intro H locs ls hL hP hD hS hn
    exact lv_if_lt hx hb hd ht (fun hc => h.elim (fun q => q.2 H locs ls hL hP hD hS hn) (fun q => absurd hc q.1)) (fun hc => h.elim (fun q => absurd q.1 hc) (fun q => q.2 H locs ls hL hP hD hS hn))
  next => exact h.elim
theorem zg_if_ge (hx : p.tables.exec = Jvm.exec) (hb : c.code = cc) (hd : decode cc pc = .ok (.ifCond .ge off, 3)) (ht : (pc : Int) + off = (u : Int)) (h : zm_o ev (zm_G p l e R s m args below meth c Q D cl tc ad A nL L) v0 w0 (zm_b1 (pc + 3) lv ws (fun x => 0 ≤ x) u st)) : zm_G p l e R s m args below meth c Q D cl tc ad A nL L (pc, lv, st, ws) := by
  unfold zm_b1 at h
  split at h
  next x r =>
    intro H locs ls hL hP hD hS hn
    exact lv_if_ge hx hb hd ht (fun hc => h.elim (fun q => q.2 H locs ls hL hP hD hS hn) (fun q => absurd hc q.1)) (fun hc => h.elim (fun q => absurd q.1 hc) (fun q => q.2 H locs ls hL hP hD hS hn))
  next => exact h.elim
theorem zg_if_gt (hx : p.tables.exec = Jvm.exec) (hb : c.code = cc) (hd : decode cc pc = .ok (.ifCond .gt off, 3)) (ht : (pc : Int) + off = (u : Int)) (h : zm_o ev (zm_G p l e R s m args below meth c Q D cl tc ad A nL L) v0 w0 (zm_b1 (pc + 3) lv ws (fun x => 0 < x) u st)) : zm_G p l e R s m args below meth c Q D cl tc ad A nL L (pc, lv, st, ws) := by
  unfold zm_b1 at h
  split at h
  next x r =>
    intro H locs ls hL hP hD hS hn
    exact lv_if_gt hx hb hd ht (fun hc => h.elim (fun q => q.2 H locs ls hL hP hD hS hn) (fun q => absurd hc q.1)) (fun hc => h.elim (fun q => absurd q.1 hc) (fun q => q.2 H locs ls hL hP hD hS hn))
  next => exact h.elim
theorem zg_if_le (hx : p.tables.exec = Jvm.exec) (hb : c.code = cc) (hd : decode cc pc = .ok (.ifCond .le off, 3)) (ht : (pc : Int) + off = (u : Int)) (h : zm_o ev (zm_G p l e R s m args below meth c Q D cl tc ad A nL L) v0 w0 (zm_b1 (pc + 3) lv ws (fun x => x ≤ 0) u st)) : zm_G p l e R s m args below meth c Q D cl tc ad A nL L (pc, lv, st, ws) := by
  unfold zm_b1 at h
  split at h
  next x r =>
    intro H locs ls hL hP hD hS hn
    exact lv_if_le hx hb hd ht (fun hc => h.elim (fun q => q.2 H locs ls hL hP hD hS hn) (fun q => absurd hc q.1)) (fun hc => h.elim (fun q => absurd q.1 hc) (fun q => q.2 H locs ls hL hP hD hS hn))
  next => exact h.elim
theorem zg_if_ne (hx : p.tables.exec = Jvm.exec) (hb : c.code = cc) (hd : decode cc pc = .ok (.ifCond .ne off, 3)) (ht : (pc : Int) + off = (u : Int)) (h : zm_o ev (zm_G p l e R s m args below meth c Q D cl tc ad A nL L) v0 w0 (zm_b1n (pc + 3) lv ws u st)) : zm_G p l e R s m args below meth c Q D cl tc ad A nL L (pc, lv, st, ws) := by
  unfold zm_b1n at h
  split at h
  next x r =>
    intro H locs ls hL hP hD hS hn
    exact lv_if_ne hx hb hd ht (fun hc => h.elim (fun q => absurd q.1 hc) (fun q => q.2 H locs ls hL hP hD hS hn)) (fun hc => h.elim (fun q => q.2 H locs ls hL hP hD hS hn) (fun q => absurd hc q.1))
  next => exact h.elim
theorem zg_icmp_eq (hx : p.tables.exec = Jvm.exec) (hb : c.code = cc) (hd : decode cc pc = .ok (.if_icmp .eq off, 3)) (ht : (pc : Int) + off = (u : Int)) (h : zm_o ev (zm_G p l e R s m args below meth c Q D cl tc ad A nL L) v0 w0 (zm_b2 (pc + 3) lv ws (fun x y => x = y) u st)) : zm_G p l e R s m args below meth c Q D cl tc ad A nL L (pc, lv, st, ws) := by
  unfold zm_b2 at h
  split at h
  next y x r =>
    intro H locs ls hL hP hD hS hn
    exact lv_icmp_eq hx hb hd ht (fun hc => h.elim (fun q => q.2 H locs ls hL hP hD hS hn) (fun q => absurd hc q.1)) (fun hc => h.elim (fun q => absurd q.1 hc) (fun q => q.2 H locs ls hL hP hD hS hn))
  next => exact h.elim
theorem zg_icmp_lt (hx : p.tables.exec = Jvm.exec) (hb : c.code = cc) (hd : decode cc pc = .ok (.if_icmp .lt off, 3)) (ht : (pc : Int) + off = (u : Int)) (h : zm_o ev (zm_G p l e R s m args below meth c Q D cl tc ad A nL L) v0 w0 (zm_b2 (pc + 3) lv ws (fun x y => x < y) u st)) : zm_G p l e R s m args below meth c Q D cl tc ad A nL L (pc, lv, st, ws) := by
  unfold zm_b2 at h
  split at h
  next y x r =>
    intro H locs ls hL hP hD hS hn
    exact lv_icmp_lt hx hb hd ht (fun hc => h.elim (fun q => q.2 H locs ls hL hP hD hS hn) (fun q => absurd hc q.1)) (fun hc => h.elim (fun q => absurd q.1 hc) (fun q => q.2 H locs ls hL hP hD hS hn))
  next => exact h.elim
theorem zg_icmp_ge (hx : p.tables.exec = Jvm.exec) (hb : c.code = cc) (hd : decode cc pc = .ok (.if_icmp .ge off, 3)) (ht : (pc : Int) + off = (u : Int)) (h : zm_o ev (zm_G p l e R s m args below meth c Q D cl tc ad A nL L) v0 w0 (zm_b2 (pc + 3) lv ws (fun x y => y ≤ x) u st)) : zm_G p l e R s m args below meth c Q D cl tc ad A nL L (pc, lv, st, ws) := by
  unfold zm_b2 at h
  split at h
  next y x r =>
    intro H locs ls hL hP hD hS hn
    exact lv_icmp_ge hx hb hd ht (fun hc => h.elim (fun q => q.2 H locs ls hL hP hD hS hn) (fun q => absurd hc q.1)) (fun hc => h.elim (fun q => absurd q.1 hc) (fun q => q.2 H locs ls hL hP hD hS hn))
  next => exact h.elim
theorem zg_icmp_gt (hx : p.tables.exec = Jvm.exec) (hb : c.code = cc) (hd : decode cc pc = .ok (.if_icmp .gt off, 3)) (ht : (pc : Int) + off = (u : Int)) (h : zm_o ev (zm_G p l e R s m args below meth c Q D cl tc ad A nL L) v0 w0 (zm_b2 (pc + 3) lv ws (fun x y => y < x) u st)) : zm_G p l e R s m args below meth c Q D cl tc ad A nL L (pc, lv, st, ws) := by
  unfold zm_b2 at h
  split at h
  next y x r =>
    intro H locs ls hL hP hD hS hn
    exact lv_icmp_gt hx hb hd ht (fun hc => h.elim (fun q => q.2 H locs ls hL hP hD hS hn) (fun q => absurd hc q.1)) (fun hc => h.elim (fun q => absurd q.1 hc) (fun q => q.2 H locs ls hL hP hD hS hn))
  next => exact h.elim
theorem zg_icmp_le (hx : p.tables.exec = Jvm.exec) (hb : c.code = cc) (hd : decode cc pc = .ok (.if_icmp .le off, 3)) (ht : (pc : Int) + off = (u : Int)) (h : zm_o ev (zm_G p l e R s m args below meth c Q D cl tc ad A nL L) v0 w0 (zm_b2 (pc + 3) lv ws (fun x y => x ≤ y) u st)) : zm_G p l e R s m args below meth c Q D cl tc ad A nL L (pc, lv, st, ws) := by
  unfold zm_b2 at h
  split at h
  next y x r =>
    intro H locs ls hL hP hD hS hn
    exact lv_icmp_le hx hb hd ht (fun hc => h.elim (fun q => q.2 H locs ls hL hP hD hS hn) (fun q => absurd hc q.1)) (fun hc => h.elim (fun q => absurd q.1 hc) (fun q => q.2 H locs ls hL hP hD hS hn))
  next => exact h.elim
theorem zg_icmp_ne (hx : p.tables.exec = Jvm.exec) (hb : c.code = cc) (hd : decode cc pc = .ok (.if_icmp .ne off, 3)) (ht : (pc : Int) + off = (u : Int)) (h : zm_o ev (zm_G p l e R s m args below meth c Q D cl tc ad A nL L) v0 w0 (zm_b2n (pc + 3) lv ws u st)) : zm_G p l e R s m args below meth c Q D cl tc ad A nL L (pc, lv, st, ws) := by
  unfold zm_b2n at h
  split at h
  next y x r =>
    intro H locs ls hL hP hD hS hn
    exact lv_icmp_ne hx hb hd ht (fun hc => h.elim (fun q => absurd q.1 hc) (fun q => q.2 H locs ls hL hP hD hS hn)) (fun hc => h.elim (fun q => q.2 H locs ls hL hP hD hS hn) (fun q => absurd hc q.1))
  next => exact h.elim
theorem zg_goto (hx : p.tables.exec = Jvm.exec) (hb : c.code = cc) (hd : decode cc pc = .ok (.goto off, 3)) (ht : (pc : Int) + off = (u : Int)) (h : zm_o ev (zm_G p l e R s m args below meth c Q D cl tc ad A nL L) v0 w0 (zm_r0 (u, lv, st, ws))) : zm_G p l e R s m args below meth c Q D cl tc ad A nL L (pc, lv, st, ws) := by
  intro H locs ls hL hP hD hS hn
  exact lv_goto hx hb hd ht (h.2 H locs ls hL hP hD hS hn)
theorem zg_switch (hx : p.tables.exec = Jvm.exec) (hb : c.code = cc) (hd : decode cc pc = .ok (.tableswitch d lo hi offs, len)) (ht : 0 ≤ (pc : Int) + d ∧ ∀ i : Nat, (i : Int) ≤ hi - lo → ∃ off, offs[i]? = some off ∧ 0 ≤ (pc : Int) + off) (h : zm_o ev (zm_G p l e R s m args below meth c Q D cl tc ad A nL L) v0 w0 (zm_xsw lv ws pc d lo hi offs st)) : zm_G p l e R s m args below meth c Q D cl tc ad A nL L (pc, lv, st, ws) := by
  unfold zm_xsw at h
  split at h
  next x r =>
    intro H locs ls hL hP hD hS hn
    have h2 := h.2 H locs ls hL hP hD hS hn
    by_cases hc : x.toInt < lo ∨ hi < x.toInt
    · rw [show zm_sw pc d lo hi offs x = ((pc : Int) + d).toNat from if_pos hc] at h2
      exact lv_tableOut hx hb hd hc (Int.toNat_of_nonneg ht.1).symm h2
    · have a1 : ¬ x.toInt < lo := fun q => hc (Or.inl q)
      have a2 : ¬ hi < x.toInt := fun q => hc (Or.inr q)
      obtain ⟨off, ho, h0⟩ := ht.2 (x.toInt - lo).toNat (by omega)
      have e1 : zm_sw pc d lo hi offs x = ((pc : Int) + off).toNat := by
        rw [show zm_sw pc d lo hi offs x = ((pc : Int) + (offs[(x.toInt - lo).toNat]?).getD 0).toNat from if_neg hc, ho]
        rfl
      rw [e1] at h2
      exact lv_tableIn hx hb hd a1 a2 ho (Int.toNat_of_nonneg h0).symm h2
  next => exact h.elim
theorem zg_get (hx : p.tables.exec = Jvm.exec) (hb : c.code = cc) (hts : ∀ x ∈ Ts, x.before args s = true) (hNw : ∀ x ∈ nw, va_Nw x s) (hown : s.vm.findClass own = some m.cls) (hK : va_K D cl (zm_tys tc) s) (hd : decode cc pc = .ok (.getfield idx, 3)) (hF : zm_okF cl Ts nw own idx u w) (h : zm_o ev (zm_G p l e R s m args below meth c Q D cl tc ad A nL L) v0 w0 (zm_gf (pc + 3) lv ws u w st)) : zm_G p l e R s m args below meth c Q D cl tc ad A nL L (pc, lv, st, ws) := by
  unfold zm_gf at h
  split at h
  next a r =>
    rcases hq : zm_n ws a with _ | ⟨x | ⟨ci, fs⟩⟩
    · rw [hq] at h; exact (show False from h).elim
    · rw [hq] at h; exact (show False from h).elim
    · rw [hq] at h
      cases hc : Nat.beq ci u with
      | false => simp only [zm_xget, hc] at h; exact (show False from h).elim
      | true =>
        simp only [zm_xget, hc] at h
        have hcu := Nat.eq_of_beq_eq_true hc
        subst hcu
        rcases hv : zm_n fs w with _ | v
        · rw [hv] at h; exact (show False from h).elim
        · rw [hv] at h
          have h2 : True ∧ zm_G p l e R s m args below meth c Q D cl tc ad A nL L (pc + 3, lv, v :: r, ws) := h
          obtain ⟨C, T, N, h3, h4, h5, h6⟩ := hF
          have hv2 : (fs.map (zm_v ad))[w]? = some (zm_v ad v) := by rw [List.getElem?_map, ← zm_n_eq, hv]; rfl
          intro H locs ls hL hP hD hS hn
          rcases h6 with h6 | ⟨host, h6⟩
          · exact va_get hx hb hts h4 hown hK hP a (zm_w_at hq) h3 w h5 (hts _ h6) (fun _ h9 => h9) hv2 hd (h2.2 H locs ls hL hP hD hS hn)
          · exact va_getN hx hb hts h4 hown hK hP a (zm_w_at hq) h3 w h5 (va_Nw.use rfl (hNw _ h6)) (fun _ h9 => h9) hv2 hd (h2.2 H locs ls hL hP hD hS hn)
  next => exact h.elim
theorem zg_put1 (hx : p.tables.exec = Jvm.exec) (hb : c.code = cc) (hts : ∀ x ∈ Ts, x.before args s = true) (hNw : ∀ x ∈ nw, va_Nw x s) (hown : s.vm.findClass own = some m.cls) (hK : va_K D cl (zm_tys tc) s) (hd : decode cc pc = .ok (.putfield idx, 3)) (hF : zm_okP cl Ts nw own idx u w ty) {a : Nat} {r : List Value} {v : Value} {P : Option Prop} (hn1 : zm_c P → narrow ty (zm_v ad v) = zm_v ad v ∧ fits ty (zm_v ad v) = true) (h : zm_o ev (zm_G p l e R s m args below meth c Q D cl tc ad A nL L) v0 w0 (zm_xput (pc + 3) lv ws a r u w v P (zm_n ws a))) : zm_G p l e R s m args below meth c Q D cl tc ad A nL L (pc, lv, v :: .ref a :: r, ws) := by
  rcases hq : zm_n ws a with _ | ⟨x | ⟨ci, fs⟩⟩
  · rw [hq] at h; exact (show False from h).elim
  · rw [hq] at h; exact (show False from h).elim
  · rw [hq] at h
    cases hc : Nat.beq ci u with
    | false => simp only [zm_xput, hc] at h; exact (show False from h).elim
    | true =>
      simp only [zm_xput, hc] at h
      have hcu := Nat.eq_of_beq_eq_true hc
      subst hcu
      cases hv : Nat.ble (w + 1) fs.length with
      | false => rw [hv] at h; exact (show False from h).elim
      | true =>
        rw [hv] at h
        have h2 : zm_c P ∧ zm_G p l e R s m args below meth c Q D cl tc ad A nL L (pc + 3, lv, r, ws.set a (.inr (ci, fs.set w v))) := h
        obtain ⟨⟨C, T, N, h3, h4, h5, h6⟩, C', T', N', h3', ty0, h7, h8, h9, h10⟩ := hF
        have e1 := h3.symm.trans h3'
        cases e1
        have hlen : w < (fs.map (zm_v ad)).length := by rw [List.length_map]; exact Nat.le_of_ble_eq_true hv
        have hset : ∀ H1 : Heap, va_P D cl ((zm_w tc ad 0 ws).set a (ad a, .inr (ci, (fs.map (zm_v ad)).set w (zm_v ad v)))) H1 → va_P D cl (zm_w tc ad 0 (ws.set a (.inr (ci, fs.set w v)))) H1 := by
          intro H1 h
          rw [← zm_w_set0]
          show va_P D cl ((zm_w tc ad 0 ws).set a (ad a, .inr (ci, (fs.set w v).map (zm_v ad)))) H1
          rw [List.map_set]
          exact h
        have hset2 : va_D A ((zm_w tc ad 0 ws).set a (ad a, .inr (ci, (fs.map (zm_v ad)).set w (zm_v ad v)))) → va_D A (zm_w tc ad 0 (ws.set a (.inr (ci, fs.set w v)))) := by
          intro h
          rw [← zm_w_set0]
          show va_D A ((zm_w tc ad 0 ws).set a (ad a, .inr (ci, (fs.set w v).map (zm_v ad))))
          rw [List.map_set]
          exact h
        intro H locs ls hL hP hD hS hn
        obtain ⟨n1, n2⟩ := hn1 h2.1
        rcases h6 with h6 | ⟨host, h6⟩
        · exact va_put hx hb hts h4 ty0 h7 h8 hown hK hP hD hS a (zm_w_at hq) h3 w h5 (hts _ h6) (fun _ h9 => h9) h9 h10 n1 n2 hlen hd (fun H1 locs1 hP1 hD1 hS1 => h2.2 H1 locs1 ls hL (hset H1 hP1) (hset2 hD1) hS1 (by rw [← hn]; exact List.length_set))
        · exact va_putN hx hb hts h4 ty0 h7 h8 hown hK hP hD hS a (zm_w_at hq) h3 w h5 (va_Nw.use rfl (hNw _ h6)) (fun _ h9 => h9) h9 h10 n1 n2 hlen hd (fun H1 locs1 hP1 hD1 hS1 => h2.2 H1 locs1 ls hL (hset H1 hP1) (hset2 hD1) hS1 (by rw [← hn]; exact List.length_set))
theorem zg_put (hx : p.tables.exec = Jvm.exec) (hb : c.code = cc) (hts : ∀ x ∈ Ts, x.before args s = true) (hNw : ∀ x ∈ nw, va_Nw x s) (hown : s.vm.findClass own = some m.cls) (hK : va_K D cl (zm_tys tc) s) (hd : decode cc pc = .ok (.putfield idx, 3)) (hF : zm_okP cl Ts nw own idx u w (zm_ft z)) (h : zm_o ev (zm_G p l e R s m args below meth c Q D cl tc ad A nL L) v0 w0 (zm_xput0 (pc + 3) lv ws u w z st)) : zm_G p l e R s m args below meth c Q D cl tc ad A nL L (pc, lv, st, ws) := by
  unfold zm_xput0 at h
  split at h
  next x a r =>
    rcases z with _ | _ | _ | z
    · exact zg_put1 hx hb hts hNw hown hK hd hF (P := none) (fun _ => ⟨rfl, rfl⟩) h
    · exact (show False from h).elim
    · refine zg_put1 hx hb hts hNw hown hK hd hF (P := some (x = 0 ∨ x = 1)) (fun q => ?_) h
      rcases (show x = 0 ∨ x = 1 from q) with rfl | rfl
      · exact ⟨show narrow .boolean (.int 0) = .int 0 by decide, show fits .boolean (.int 0) = true by decide⟩
      · exact ⟨show narrow .boolean (.int 1) = .int 1 by decide, show fits .boolean (.int 1) = true by decide⟩
    · exact (show False from h).elim
  next x a r =>
    rcases z with _ | _ | z
    · exact (show False from h).elim
    · exact zg_put1 hx hb hts hNw hown hK hd hF (P := none) (fun _ => ⟨rfl, rfl⟩) h
    · exact (show False from h).elim
  next => exact h.elim
theorem zg_iaload (hx : p.tables.exec = Jvm.exec) (hb : c.code = cc) (hK : va_K D cl (zm_tys tc) s) (hd : decode cc pc = .ok (.iaload, 1)) (h : zm_o ev (zm_G p l e R s m args below meth c Q D cl tc ad A nL L) v0 w0 (zm_al (pc + 1) lv ws 0 st)) : zm_G p l e R s m args below meth c Q D cl tc ad A nL L (pc, lv, st, ws) := by
  unfold zm_al at h
  split at h
  next i a r =>
    rcases hq : zm_n ws a with _ | ⟨⟨k, n, f | f⟩ | x⟩
    · rw [hq] at h; exact (show False from h).elim
    · rw [hq] at h
      cases hc : Nat.beq k 0 with
      | false => simp only [zm_xald, hc] at h; exact (show False from h).elim
      | true =>
        simp only [zm_xald, hc] at h
        have hcu := Nat.eq_of_beq_eq_true hc
        subst hcu
        have h2 : vp_in i n ∧ zm_G p l e R s m args below meth c Q D cl tc ad A nL L (pc + 1, lv, .int (f i.toNatClampNeg) :: r, ws) := h
        intro H locs ls hL hP hD hS hn
        exact va_iald hx hb hK hP a 0 (zm_w_at hq) rfl h2.1 hd (h2.2 H locs ls hL hP hD hS hn)
    · rw [hq] at h; exact (show False from h).elim
    · rw [hq] at h; exact (show False from h).elim
  next => exact h.elim
theorem zg_baload (hx : p.tables.exec = Jvm.exec) (hb : c.code = cc) (hK : va_K D cl (zm_tys tc) s) (hd : decode cc pc = .ok (.baload, 1)) (h : zm_o ev (zm_G p l e R s m args below meth c Q D cl tc ad A nL L) v0 w0 (zm_al (pc + 1) lv ws 2 st)) : zm_G p l e R s m args below meth c Q D cl tc ad A nL L (pc, lv, st, ws) := by
  unfold zm_al at h
  split at h
  next i a r =>
    rcases hq : zm_n ws a with _ | ⟨⟨k, n, f | f⟩ | x⟩
    · rw [hq] at h; exact (show False from h).elim
    · rw [hq] at h
      cases hc : Nat.beq k 2 with
      | false => simp only [zm_xald, hc] at h; exact (show False from h).elim
      | true =>
        simp only [zm_xald, hc] at h
        have hcu := Nat.eq_of_beq_eq_true hc
        subst hcu
        have h2 : vp_in i n ∧ zm_G p l e R s m args below meth c Q D cl tc ad A nL L (pc + 1, lv, .int (f i.toNatClampNeg) :: r, ws) := h
        intro H locs ls hL hP hD hS hn
        exact va_zald hx hb hK hP a 2 (zm_w_at hq) rfl h2.1 hd (h2.2 H locs ls hL hP hD hS hn)
    · rw [hq] at h; exact (show False from h).elim
    · rw [hq] at h; exact (show False from h).elim
  next => exact h.elim
theorem zg_laload (hx : p.tables.exec = Jvm.exec) (hb : c.code = cc) (hK : va_K D cl (zm_tys tc) s) (hd : decode cc pc = .ok (.laload, 1)) (h : zm_o ev (zm_G p l e R s m args below meth c Q D cl tc ad A nL L) v0 w0 (zm_lal (pc + 1) lv ws st)) : zm_G p l e R s m args below meth c Q D cl tc ad A nL L (pc, lv, st, ws) := by
  unfold zm_lal at h
  split at h
  next i a r =>
    rcases hq : zm_n ws a with _ | ⟨⟨k, n, f | f | f⟩ | x⟩
    · rw [hq] at h; exact (show False from h).elim
    · rw [hq] at h; exact (show False from h).elim
    · rw [hq] at h
      cases hc : Nat.beq k 1 with
      | false => simp only [zm_xlald, hc] at h; exact (show False from h).elim
      | true =>
        simp only [zm_xlald, hc] at h
        have hcu := Nat.eq_of_beq_eq_true hc
        subst hcu
        have h2 : vp_in i n ∧ zm_G p l e R s m args below meth c Q D cl tc ad A nL L (pc + 1, lv, .long (f i.toNatClampNeg) :: r, ws) := h
        intro H locs ls hL hP hD hS hn
        exact va_lald hx hb hK hP a 1 (zm_w_at hq) rfl h2.1 hd (h2.2 H locs ls hL hP hD hS hn)
    · rw [hq] at h; exact (show False from h).elim
    · rw [hq] at h; exact (show False from h).elim
  next => exact h.elim
theorem zg_iastore (hx : p.tables.exec = Jvm.exec) (hb : c.code = cc) (hK : va_K D cl (zm_tys tc) s) (hd : decode cc pc = .ok (.iastore, 1)) (h : zm_o ev (zm_G p l e R s m args below meth c Q D cl tc ad A nL L) v0 w0 (zm_as (pc + 1) lv ws 0 (fun x => x) st)) : zm_G p l e R s m args below meth c Q D cl tc ad A nL L (pc, lv, st, ws) := by
  unfold zm_as at h
  split at h
  next x i a r =>
    rcases hq : zm_n ws a with _ | ⟨⟨k, n, f | f⟩ | y⟩
    · rw [hq] at h; exact (show False from h).elim
    · rw [hq] at h
      cases hc : Nat.beq k 0 with
      | false => simp only [zm_xast, hc] at h; exact (show False from h).elim
      | true =>
        simp only [zm_xast, hc] at h
        have hcu := Nat.eq_of_beq_eq_true hc
        subst hcu
        have h2 : vp_in i n ∧ zm_G p l e R s m args below meth c Q D cl tc ad A nL L (pc + 1, lv, r, ws.set a (.inl (0, n, .inl (upd f i.toNatClampNeg x)))) := h
        intro H locs ls hL hP hD hS hn
        exact va_iast hx hb hK hP hD hS a 0 (zm_w_at hq) rfl h2.1 hd (fun H1 locs1 hP1 hD1 hS1 => h2.2 H1 locs1 ls hL (by rw [← zm_w_set0]; exact hP1) (by rw [← zm_w_set0]; exact hD1) hS1 (by rw [← hn]; exact List.length_set))
    · rw [hq] at h; exact (show False from h).elim
    · rw [hq] at h; exact (show False from h).elim
  next => exact h.elim
theorem zg_bastore (hx : p.tables.exec = Jvm.exec) (hb : c.code = cc) (hK : va_K D cl (zm_tys tc) s) (hd : decode cc pc = .ok (.bastore, 1)) (h : zm_o ev (zm_G p l e R s m args below meth c Q D cl tc ad A nL L) v0 w0 (zm_as (pc + 1) lv ws 2 (vp_nar .boolean) st)) : zm_G p l e R s m args below meth c Q D cl tc ad A nL L (pc, lv, st, ws) := by
  unfold zm_as at h
  split at h
  next x i a r =>
    rcases hq : zm_n ws a with _ | ⟨⟨k, n, f | f⟩ | y⟩
    · rw [hq] at h; exact (show False from h).elim
    · rw [hq] at h
      cases hc : Nat.beq k 2 with
      | false => simp only [zm_xast, hc] at h; exact (show False from h).elim
      | true =>
        simp only [zm_xast, hc] at h
        have hcu := Nat.eq_of_beq_eq_true hc
        subst hcu
        have h2 : vp_in i n ∧ zm_G p l e R s m args below meth c Q D cl tc ad A nL L (pc + 1, lv, r, ws.set a (.inl (2, n, .inl (upd f i.toNatClampNeg (vp_nar .boolean x))))) := h
        intro H locs ls hL hP hD hS hn
        exact va_zast hx hb hK hP hD hS a 2 (zm_w_at hq) rfl h2.1 hd (fun H1 locs1 hP1 hD1 hS1 => h2.2 H1 locs1 ls hL (by rw [← zm_w_set0]; exact hP1) (by rw [← zm_w_set0]; exact hD1) hS1 (by rw [← hn]; exact List.length_set))
    · rw [hq] at h; exact (show False from h).elim
    · rw [hq] at h; exact (show False from h).elim
  next => exact h.elim
theorem zg_lastore (hx : p.tables.exec = Jvm.exec) (hb : c.code = cc) (hK : va_K D cl (zm_tys tc) s) (hd : decode cc pc = .ok (.lastore, 1)) (h : zm_o ev (zm_G p l e R s m args below meth c Q D cl tc ad A nL L) v0 w0 (zm_las (pc + 1) lv ws st)) : zm_G p l e R s m args below meth c Q D cl tc ad A nL L (pc, lv, st, ws) := by
  unfold zm_las at h
  split at h
  next x i a r =>
    rcases hq : zm_n ws a with _ | ⟨⟨k, n, f | f | f⟩ | y⟩
    · rw [hq] at h; exact (show False from h).elim
    · rw [hq] at h; exact (show False from h).elim
    · rw [hq] at h
      cases hc : Nat.beq k 1 with
      | false => simp only [zm_xlast, hc] at h; exact (show False from h).elim
      | true =>
        simp only [zm_xlast, hc] at h
        have hcu := Nat.eq_of_beq_eq_true hc
        subst hcu
        have h2 : vp_in i n ∧ zm_G p l e R s m args below meth c Q D cl tc ad A nL L (pc + 1, lv, r, ws.set a (.inl (1, n, .inr (.inl (vp_updL f i.toNatClampNeg x))))) := h
        intro H locs ls hL hP hD hS hn
        exact va_last hx hb hK hP hD hS a 1 (zm_w_at hq) rfl h2.1 hd (fun H1 locs1 hP1 hD1 hS1 => h2.2 H1 locs1 ls hL (by rw [← zm_w_set0]; exact hP1) (by rw [← zm_w_set0]; exact hD1) hS1 (by rw [← hn]; exact List.length_set))
    · rw [hq] at h; exact (show False from h).elim
    · rw [hq] at h; exact (show False from h).elim
  next => exact h.elim
end ZMG
end
section
/-! Calls, answers, the whole: what our machine does, the JVM does. -/
def zm_nest (x : Jvm.Cond) : Prop := (∃ (a : String) (i : Nat) (b n d h : String), x = .fieldLinkNest a i b n d h) ∨ ∃ (a : String) (i : Nat) (y : MethodName) (h : String), x = .methodLinkNest a i y h
theorem zm_nw_warm {nw : List Jvm.Cond} {s U : State} (hn : ∀ x ∈ nw, zm_nest x) (hW : s.WarmedH U.vm) (h : ∀ x ∈ nw, va_Nw x s) : ∀ x ∈ nw, va_Nw x U := by
  intro x hx
  have h1 := h x hx
  rcases hn x hx with ⟨a, i, b, n, d, g, rfl⟩ | ⟨a, i, y, g, rfl⟩
  · exact va_Nw.warmF hW h1
  · exact va_Nw.warmM hW h1
theorem zm_nw_same {nw : List Jvm.Cond} {s U : State} (hn : ∀ x ∈ nw, zm_nest x) (hW : s.vm = U.vm) (h : ∀ x ∈ nw, va_Nw x s) : ∀ x ∈ nw, va_Nw x U := by
  intro x hx
  have h1 := h x hx
  rcases hn x hx with ⟨a, i, b, n, d, g, rfl⟩ | ⟨a, i, y, g, rfl⟩
  · exact va_Nw.same rfl hW h1
  · exact va_Nw.same rfl hW h1
def zm_Pc (D : va_G) (cl : List vw_C) (tc : Nat → ClassId) (ad : Nat → Nat) (nw : List Jvm.Cond) (as : List Value) (ws : List zm_E) (sz : Nat) : Array Value → State → Prop :=
  va_Pc (as.map (zm_v ad)) (fun U => U.heap.size = sz ∧ va_P D cl (zm_w tc ad 0 ws) U.heap ∧ va_K D cl (zm_tys tc) U ∧ va_D (fun _ => True) (zm_w tc ad 0 ws) ∧ ∀ x ∈ nw, va_Nw x U)
def zm_Qc (D : va_G) (cl : List vw_C) (tc : Nat → ClassId) (ad : Nat → Nat) (ws : List zm_E) (v : Option Value) (w : List zm_E) (sz : Nat) : Array Value → State → Outcome → State → Prop :=
  fun _ st oc t => (oc = .returned (v.map (zm_v ad)) ∧ va_P D cl (zm_w tc ad 0 w) t.heap ∧ w.length = ws.length) ∧ va_F (va_A (zm_w tc ad 0 ws) sz) st t
def zm_rm (d : Nat) : Room := { frames := d, cells := 0, slots := 0, locals := 60 * d }
def zm_ws (gw : List Jvm.Cond) (M : zm_M) : List Jvm.Cond := .code M.1 M.2.1 M.2.2.1 M.2.2.2.1 :: gw
def zm_okM (cl : List vw_C) (gw : List Jvm.Cond) (M : zm_M) : Prop := plainName M.1.cls = true ∧ Jvm.Cond.code M.1 M.2.1 M.2.2.1 M.2.2.2.1 ∈ gw ∧ Jvm.Cond.initialized M.1.cls ∈ gw ∧ (M.1.cls ≠ "java/lang/invoke/MethodHandle" ∧ M.1.cls ≠ "java/lang/invoke/VarHandle") ∧ (parseMethodDescriptor M.1.desc).map (fun d => d.parameters.length) = some M.2.2.2.2.1 ∧ M.2.2.1 ≤ 41 ∧ (M.2.2.2.2.2.1 = true → Jvm.Cond.static M.1 ∈ gw) ∧ (M.2.2.2.2.2.1 = false → Jvm.Cond.instanceMethod M.1 ∈ gw ∧ Jvm.Cond.selects M.1.cls M.1 M.1 ∈ gw ∧ ∃ (T : u_T) (N : Nat), cl[M.2.2.2.2.2.2.1]? = some (M.1.cls, T, N))
def zm_okG (get : Nat → Option zm_M) (gw nw : List Jvm.Cond) (own : String) (idx u w z : Nat) (b : Bool) : Prop := ∃ M', get u = some M' ∧ (Jvm.Cond.methodLink own idx M'.1 ∈ gw ∨ ∃ host, Jvm.Cond.methodLinkNest own idx M'.1 host ∈ nw) ∧ M'.2.2.2.2.1 = w ∧ M'.2.2.2.2.2.1 = b ∧ (b = false → M'.2.2.2.2.2.2.1 = z)
def zm_goodL (gw : List Jvm.Cond) : Prop := ∀ x ∈ gw, (x.onTables && x.keeps) = true ∨ ∃ ty, x = .arrayClass ty
theorem zm_goodIn {gw : List Jvm.Cond} {M : zm_M} (hg : zm_goodL gw) (hc : Jvm.Cond.code M.1 M.2.1 M.2.2.1 M.2.2.2.1 ∈ gw) : GoodIn gw (zm_ws gw M) := by
  intro x hx
  rcases List.mem_cons.mp hx with rfl | hx
  · exact ⟨hc, hg _ hc⟩
  · exact ⟨hx, hg _ hx⟩
theorem zm_w_len (tc : Nat → ClassId) (ad : Nat → Nat) (ws : List zm_E) (i : Nat) : (zm_w tc ad i ws).length = ws.length := by
  induction ws generalizing i with
  | nil => rfl
  | cons x l ih => simp [zm_w, ih]
/-- the addresses alone -/
theorem zm_w_ad {tc : Nat → ClassId} {ad : Nat → Nat} {ws : List zm_E} {a : Nat} {q : Nat × va_E} (h : (zm_w tc ad 0 ws)[a]? = some q) : a < ws.length ∧ q.1 = ad a := by
  have h0 := h
  rw [zm_w_get] at h
  cases hq : zm_n ws a with
  | none => rw [hq] at h; cases h
  | some x =>
    rw [hq, Nat.zero_add] at h
    cases h
    refine ⟨?_, rfl⟩
    have := (List.getElem?_eq_some_iff.mp h0).1
    rwa [zm_w_len] at this
theorem zm_w_ex {tc : Nat → ClassId} {ad : Nat → Nat} {ws : List zm_E} {a : Nat} (h : a < ws.length) : ∃ x, (zm_w tc ad 0 ws)[a]? = some (ad a, x) := by
  have h1 : a < (zm_w tc ad 0 ws).length := by rw [zm_w_len]; exact h
  have h2 := List.getElem?_eq_getElem h1
  obtain ⟨-, h3⟩ := zm_w_ad h2
  exact ⟨(zm_w tc ad 0 ws)[a].2, by rw [h2, ← h3]⟩
theorem zm_D_len {tc : Nat → ClassId} {ad : Nat → Nat} {A : Nat → Prop} {ws w : List zm_E} (h : va_D A (zm_w tc ad 0 ws)) (hl : w.length = ws.length) : va_D A (zm_w tc ad 0 w) := by
  refine ⟨fun i j p q hi hj e => ?_, fun k q hk => ?_⟩
  · obtain ⟨h1, h2⟩ := zm_w_ad hi
    obtain ⟨h3, h4⟩ := zm_w_ad hj
    obtain ⟨x, hx⟩ := zm_w_ex (tc := tc) (ad := ad) (show i < ws.length by omega)
    obtain ⟨y, hy⟩ := zm_w_ex (tc := tc) (ad := ad) (show j < ws.length by omega)
    exact h.1 i j _ _ hx hy (by rw [← h2, ← h4]; exact e)
  · obtain ⟨h1, h2⟩ := zm_w_ad hk
    obtain ⟨x, hx⟩ := zm_w_ex (tc := tc) (ad := ad) (show k < ws.length by omega)
    rw [h2]
    exact h.2 k _ hx
section ZMC
variable {p : Program} {l : Launch} {e : Env} {R : Room} {s : State} {m : MethodId} {args : Array Value} {below : List Frame} {meth : Method} {c : Code} {Q : State → Prop} {D : va_G} {cl : List vw_C} {tc : Nat → ClassId} {ad : Nat → Nat} {A : Nat → Prop} {nL L : Nat}
variable {cc : ByteArray} {pc : Nat} {lv : List (Option Value)} {st : List Value} {ws : List zm_E} {ev : Nat → List Value → List zm_E → Option Value → List zm_E → Prop} {v0 : Option Value} {w0 : List zm_E}
variable {k off lo hi : Int} {offs : Array Int} {kf : Fin 2} {kk : Fin 4} {u w z idx len d : Nat} {x y : Int32} {xl : Int64} {own : String} {gw nw : List Jvm.Cond} {ty : FieldType} {get : Nat → Option zm_M} {H : Heap} {locs : List Loc}
theorem zm_callg {mc ms : Nat} {ls : Array Slot} {st0 rest : List Value} {Qa : State → Outcome → State → Prop} {free : Addr → Prop} (hr : va_Run p l e R s m args below meth c H locs 0 0 0 0 (F0 m pc ls st0) rest Qa free)
    (kk : ∀ (v : Option Value) (st₀ t : State) (H1 : Heap) (locs1 : List Loc), st₀.heap = H → t.heap = H1 → Qa st₀ (.returned v) t → (∀ q ∈ locs1, q ∈ locs ∨ free q.base) → W p l e R s m args below meth c H1 locs1 0 0 Q (F0 m (pc + 3) ls (v.toList ++ rest))) : W p l e R s m args below meth c H locs 0 0 Q (F0 m pc ls st0) := by
  intro T hT X
  obtain ⟨v, st₀, t, T', L, h0, X', hL, e1, e2, hq, st⟩ := hr T hT X
  obtain ⟨t2, a1, b1⟩ := kk v st₀ t T'.heap (locs ++ L) h0 e1.symm hq (fun q hq => by
      rcases List.mem_append.mp hq with h | h
      · exact Or.inl h
      · exact Or.inr (hL q h)) T' rfl X'
  exact ⟨t2, st t2 a1, b1⟩
theorem zm_blind {as : List Value} {sz : Nat} (hnest : ∀ x ∈ nw, zm_nest x) : FrameBlind (zm_Pc D cl tc ad nw as ws sz) := by
  intro a U g mk q
  obtain ⟨q0, q1, qP, qK, qD, qN⟩ := q
  exact ⟨q0, q1, qP, va_K.moved (u := U) (U := U.calling g mk a) (Vm.Alike.refl U.vm) qK, qD, zm_nw_same (s := U) (U := U.calling g mk a) hnest rfl qN⟩
/-- behind a call: the callee's world is the caller's -/
theorem zm_back {ls : Array Slot} {r : List Value} {v1 : Option Value} {w1 : List zm_E} {st₀ t : State} {H1 : Heap} {locs1 : List Loc} {v : Option Value} {aa : Array Value} (hA : ∀ q, s.heap.size ≤ q → A q) (hL : zm_L ad ls nL lv) (hD : va_D A (zm_w tc ad 0 ws)) (hS : va_S A s.heap H locs) (hn : ws.length = L)
    (h0 : st₀.heap = H) (ht : t.heap = H1) (hq : zm_Qc D cl tc ad ws v1 w1 H.size aa st₀ (.returned v) t) (hloc : ∀ q ∈ locs1, q ∈ locs ∨ va_A (zm_w tc ad 0 ws) H.size q.base)
    (hg : zm_G p l e R s m args below meth c Q D cl tc ad A nL L (pc + 3, lv, v1.toList ++ r, w1)) : W p l e R s m args below meth c H1 locs1 0 0 Q (F0 m (pc + 3) ls (v.toList ++ r.map (zm_v ad))) := by
  obtain ⟨⟨hv, hP1, hlen⟩, hF1, hF2⟩ := hq
  cases hv
  have hfree : ∀ q, va_A (zm_w tc ad 0 ws) H.size q → A q := by
    intro q h
    rcases h with ⟨k, e, h⟩ | h
    · exact hD.2 k (q, e) h
    · exact hA q (Nat.le_trans hS.1 h)
  have h2 := hg H1 locs1 ls hL (by rw [← ht]; exact hP1) (zm_D_len hD hlen) ⟨Nat.le_trans hS.1 (by rw [← ht, ← h0]; exact hF1), fun q h1 h2 => by
      have h3 := Nat.lt_of_lt_of_le h1 hS.1
      rw [← ht, hF2 q (by rw [h0]; exact h3) (fun z => h2 (hfree q z)), h0]
      exact hS.2.1 q h1 h2, fun q hq => by
      rcases hloc q hq with h | h
      · exact hS.2.2 q h
      · exact hfree _ h⟩ (hlen.trans hn)
  have e1 : (v1.toList ++ r).map (zm_v ad) = (v1.map (zm_v ad)).toList ++ r.map (zm_v ad) := by cases v1 <;> simp
  rw [← e1]
  exact h2
abbrev zm_IH (l : Launch) (get : Nat → Option zm_M) (gw nw : List Jvm.Cond) (D : va_G) (cl : List vw_C) (tc : Nat → ClassId) (ad : Nat → Nat) (d : Nat) (ev : Nat → List Value → List zm_E → Option Value → List zm_E → Prop) : Prop := ∀ (k : Nat) (as : List Value) (ws : List zm_E) (v : Option Value) (w : List zm_E), ev k as ws v w → ∀ M', get k = some M' → ∀ sz, Met l M'.1 (zm_ws gw M') (zm_rm d) (zm_Pc D cl tc ad nw as ws sz) (zm_Qc D cl tc ad ws v w sz) 0 0 (va_A (zm_w tc ad 0 ws) sz)
theorem zg_cv (hx : p.tables.exec = Jvm.exec) (hb : c.code = cc) (hml : c.maxLocals = nL) (htg : ∀ x ∈ gw, x.before args s = true) (hgood : zm_goodL gw) (hNw : ∀ x ∈ nw, va_Nw x s) (hnest : ∀ x ∈ nw, zm_nest x) (hown : s.vm.findClass own = some m.cls) (hK : va_K D cl (zm_tys tc) s) (hA : ∀ q, s.heap.size ≤ q → A q)
    (hd : decode cc pc = .ok (.invokevirtual idx, 3)) (hG : zm_okG get gw nw own idx u w z false) (hokc : ∀ k M', get k = some M' → zm_okM cl gw M') (IH : zm_IH l get gw nw D cl tc ad d ev) (hR : d + 1 ≤ R.frames ∧ 60 * d + 60 ≤ R.locals)
    (h : zm_o ev (zm_G p l e R s m args below meth c Q D cl tc ad A nL L) v0 w0 (zm_cv (pc + 3) lv ws u z (st.take w) (st.drop w))) : zm_G p l e R s m args below meth c Q D cl tc ad A nL L (pc, lv, st, ws) := by
  rcases hdr : st.drop w with _ | ⟨b, r⟩
  · rw [hdr] at h; exact (show False from h).elim
  rw [hdr] at h
  cases b with
  | ref b =>
    rcases hq : zm_n ws b with _ | ⟨x | ⟨ci, fs⟩⟩
    · simp only [zm_cv, hq] at h; exact (show False from h).elim
    · simp only [zm_cv, hq] at h; exact (show False from h).elim
    · simp only [zm_cv, hq, zm_cv2] at h
      cases hc : Nat.beq ci z with
      | false => rw [hc] at h; exact (show False from h).elim
      | true =>
        rw [hc] at h
        cases hs8 : Nat.ble ((r.map fun v => v.category).sum) 8 with
        | false => rw [hs8] at h; exact (show False from h).elim
        | true =>
          rw [hs8] at h
          obtain ⟨v1, w1, hev, hgo⟩ : ∃ v1 w1, ev u (.ref b :: (st.take w).reverse) ws v1 w1 ∧ zm_G p l e R s m args below meth c Q D cl tc ad A nL L (pc + 3, lv, v1.toList ++ r, w1) := h
          have hcu := Nat.eq_of_beq_eq_true hc
          have h8 := Nat.le_of_ble_eq_true hs8
          obtain ⟨M', hM1, hM2, hM3, hM4, hM5⟩ := hG
          obtain ⟨k1, k2, k3, k4, k5, k6, -, k8⟩ := hokc u M' hM1
          obtain ⟨k9, k10, T, N, k11⟩ := k8 hM4
          rw [hM5 rfl, ← hcu] at k11
          have est : st = st.take w ++ .ref b :: r := by rw [← hdr, List.take_append_drop]
          have hwl : (st.take w).length = w := by
            have h1 : (st.drop w).length = st.length - w := List.length_drop
            rw [hdr] at h1
            simp only [List.length_cons] at h1
            rw [List.length_take]
            omega
          intro H locs ls hL hP hD hS hn
          have hMet := IH u _ ws v1 w1 hev M' hM1 H.size
          have hpre : PreV s H M'.1.cls (ad b) (zm_Pc D cl tc ad nw (.ref b :: (st.take w).reverse) ws H.size) ((st.take w).reverse.map (zm_v ad)) := ⟨zm_blind hnest, va_recv hK hP k11 (zm_w_at hq), fun U hU hW => ⟨rfl, by rw [hU], by rw [hU]; exact hP, va_K.moved hW.alike hK, hD.weaken (fun _ _ _ _ => trivial), zm_nw_warm hnest hW hNw⟩⟩
          have hstack : (F0 m pc ls (st.map (zm_v ad))).stack = ((st.take w).reverse.map (zm_v ad)).reverse ++ .ref (ad b) :: r.map (zm_v ad) := by
            show st.map (zm_v ad) = _
            rw [List.map_reverse, List.reverse_reverse]
            conv => lhs; rw [est]
            rw [List.map_append]
            rfl
          have hlen2 : ((st.take w).reverse.map (zm_v ad)).length = M'.2.2.2.2.1 := by rw [List.length_map, List.length_reverse, hwl, hM3]
          have hr8 : 2 * (F0 m pc ls (st.map (zm_v ad))).monitorRoom + ((r.map (zm_v ad)).map fun v => v.category).sum ≤ 8 := lv_room (by rw [zm_cats]; exact h8)
          have hroom : (zm_rm d).frames + 1 ≤ R.frames ∧ 8 + (M'.2.2.1 + 11) + (zm_rm d).locals ≤ R.locals := ⟨hR.1, by show 8 + (M'.2.2.1 + 11) + 60 * d ≤ R.locals; omega⟩
          rcases hM2 with hM2 | ⟨host, hM2⟩
          · have cw := cwV (own := own) (C := M'.1.cls) (index := idx) (y := M'.1) (ws := zm_ws gw M') (ws' := gw) (rm := zm_rm d) (R := R) (mc := 0) (ms := 0) M'.2.2.2.2.1 htg (fun x hx => by
              rcases List.mem_append.mp hx with h | h
              · rcases List.mem_cons.mp h with rfl | h
                · exact ⟨hM2, hgood _ hM2⟩
                rcases List.mem_cons.mp h with rfl | h
                · exact ⟨k9, hgood _ k9⟩
                rcases List.mem_cons.mp h with rfl | h
                · exact ⟨k10, hgood _ k10⟩
                rcases List.mem_cons.mp h with rfl | h
                · exact ⟨k3, hgood _ k3⟩
                · cases h
              · exact zm_goodIn hgood k2 x h) rfl rfl rfl ⟨rfl, k4.1, k4.2, k5⟩ hroom
            exact zm_callg (mc := 0) (ms := 0) (va_runV ⟨hx, hb, hml, hown, htg⟩ hMet cw hpre rfl hlen2 hL.1 hstack hr8 hd ⟨Nat.zero_le _, Nat.zero_le _⟩) (fun v st₀ t H1 locs1 h0 ht hq1 hloc => zm_back hA hL hD hS hn h0 ht hq1 hloc hgo)
          · have cw := va_cnB (own := own) (host := host) (index := idx) (y := M'.1) (ws := zm_ws gw M') (ws' := gw) (rm := zm_rm d) (R := R) (mc := 0) (ms := 0) M'.2.2.2.2.1 htg (zm_goodIn hgood k2) rfl rfl rfl (hNw _ hM2) (htg _ k3) ⟨k4.1, k4.2, k5⟩ hroom
            exact zm_callg (mc := 0) (ms := 0) (va_runVN ⟨hx, hb, hml, hown, htg⟩ hMet ⟨cw, htg _ k9, htg _ k10⟩ hpre rfl hlen2 hL.1 hstack hr8 hd ⟨Nat.zero_le _, Nat.zero_le _⟩) (fun v st₀ t H1 locs1 h0 ht hq1 hloc => zm_back hA hL hD hS hn h0 ht hq1 hloc hgo)
  | _ => exact (show False from h).elim
theorem zg_cs (hx : p.tables.exec = Jvm.exec) (hb : c.code = cc) (hml : c.maxLocals = nL) (htg : ∀ x ∈ gw, x.before args s = true) (hgood : zm_goodL gw) (hNw : ∀ x ∈ nw, va_Nw x s) (hnest : ∀ x ∈ nw, zm_nest x) (hown : s.vm.findClass own = some m.cls) (hK : va_K D cl (zm_tys tc) s) (hA : ∀ q, s.heap.size ≤ q → A q)
    (hd : decode cc pc = .ok (.invokestatic idx, 3)) (hG : zm_okG get gw nw own idx u w z true) (hokc : ∀ k M', get k = some M' → zm_okM cl gw M') (IH : zm_IH l get gw nw D cl tc ad d ev) (hR : d + 1 ≤ R.frames ∧ 60 * d + 60 ≤ R.locals)
    (h : zm_o ev (zm_G p l e R s m args below meth c Q D cl tc ad A nL L) v0 w0 (zm_cs (pc + 3) lv ws u w st)) : zm_G p l e R s m args below meth c Q D cl tc ad A nL L (pc, lv, st, ws) := by
  cases hc : Nat.ble w st.length with
  | false => simp only [zm_cs, hc] at h; exact (show False from h).elim
  | true =>
    simp only [zm_cs, hc] at h
    cases hs8 : Nat.ble (((st.drop w).map fun v => v.category).sum) 8 with
    | false => rw [hs8] at h; exact (show False from h).elim
    | true =>
      rw [hs8] at h
      obtain ⟨v1, w1, hev, hgo⟩ : ∃ v1 w1, ev u (st.take w).reverse ws v1 w1 ∧ zm_G p l e R s m args below meth c Q D cl tc ad A nL L (pc + 3, lv, v1.toList ++ st.drop w, w1) := h
      have hwl : (st.take w).length = w := by rw [List.length_take]; have := Nat.le_of_ble_eq_true hc; omega
      have h8 := Nat.le_of_ble_eq_true hs8
      obtain ⟨M', hM1, hM2, hM3, hM4, hM5⟩ := hG
      obtain ⟨k1, k2, k3, k4, k5, k6, k7, -⟩ := hokc u M' hM1
      have k9 := k7 hM4
      intro H locs ls hL hP hD hS hn
      have hMet := IH u _ ws v1 w1 hev M' hM1 H.size
      have hpre : PreS s H (zm_Pc D cl tc ad nw (st.take w).reverse ws H.size) ((st.take w).reverse.map (zm_v ad)) := ⟨zm_blind hnest, fun U hU hW => ⟨rfl, by rw [hU], by rw [hU]; exact hP, va_K.moved hW.alike hK, hD.weaken (fun _ _ _ _ => trivial), zm_nw_warm hnest hW hNw⟩⟩
      have hstack : (F0 m pc ls (st.map (zm_v ad))).stack = ((st.take w).reverse.map (zm_v ad)).reverse ++ (st.drop w).map (zm_v ad) := by
        show st.map (zm_v ad) = _
        rw [List.map_reverse, List.reverse_reverse, ← List.map_append, List.take_append_drop]
      have hlen2 : ((st.take w).reverse.map (zm_v ad)).length = M'.2.2.2.2.1 := by rw [List.length_map, List.length_reverse, hwl, hM3]
      have hr8 : 2 * (F0 m pc ls (st.map (zm_v ad))).monitorRoom + (((st.drop w).map (zm_v ad)).map fun v => v.category).sum ≤ 8 := lv_room (by rw [zm_cats]; exact h8)
      have hroom : (zm_rm d).frames + 1 ≤ R.frames ∧ 8 + (M'.2.2.1 + 11) + (zm_rm d).locals ≤ R.locals := ⟨hR.1, by show 8 + (M'.2.2.1 + 11) + 60 * d ≤ R.locals; omega⟩
      rcases hM2 with hM2 | ⟨host, hM2⟩
      · have cw := callB_of (own := own) (index := idx) (y := M'.1) (ws := zm_ws gw M') (ws' := gw) (rm := zm_rm d) (R := R) (mc := 0) (ms := 0) M'.2.2.2.2.1 htg (zm_goodIn hgood k2) rfl rfl rfl (htg _ k3) (htg _ hM2) ⟨k4.1, k4.2, k5⟩ hroom
        exact zm_callg (mc := 0) (ms := 0) (va_runS ⟨hx, hb, hml, hown, htg⟩ hMet ⟨cw, htg _ k9⟩ hpre rfl hlen2 hL.1 hstack hr8 hd ⟨Nat.zero_le _, Nat.zero_le _⟩) (fun v st₀ t H1 locs1 h0 ht hq1 hloc => zm_back hA hL hD hS hn h0 ht hq1 hloc hgo)
      · have cw := va_cnB (own := own) (host := host) (index := idx) (y := M'.1) (ws := zm_ws gw M') (ws' := gw) (rm := zm_rm d) (R := R) (mc := 0) (ms := 0) M'.2.2.2.2.1 htg (zm_goodIn hgood k2) rfl rfl rfl (hNw _ hM2) (htg _ k3) ⟨k4.1, k4.2, k5⟩ hroom
        exact zm_callg (mc := 0) (ms := 0) (va_runSN ⟨hx, hb, hml, hown, htg⟩ hMet ⟨cw, htg _ k9, trivial⟩ hpre rfl hlen2 hL.1 hstack hr8 hd ⟨Nat.zero_le _, Nat.zero_le _⟩) (fun v st₀ t H1 locs1 h0 ht hq1 hloc => zm_back hA hL hD hS hn h0 ht hq1 hloc hgo)
theorem zg_cpy (hx : p.tables.exec = Jvm.exec) (hb : c.code = cc) (hml : c.maxLocals = nL) (hown : s.vm.findClass own = some m.cls) (hK : va_K D cl (zm_tys tc) s)
    (hlink : (Jvm.Cond.methodLink own idx arraycopyName).before args s = true) (hnat : (Jvm.Cond.native arraycopyName).before args s = true) (hstat : (Jvm.Cond.static arraycopyName).before args s = true) (hini : (Jvm.Cond.initialized "java/lang/System").before args s = true)
    (hd : decode cc pc = .ok (.invokestatic idx, 3)) (hR : 1 ≤ R.frames ∧ 60 ≤ R.locals)
    (h : zm_o ev (zm_G p l e R s m args below meth c Q D cl tc ad A nL L) v0 w0 (zm_cpy (pc + 3) lv ws st)) : zm_G p l e R s m args below meth c Q D cl tc ad A nL L (pc, lv, st, ws) := by
  unfold zm_cpy at h
  split at h
  next n dp a sp a0 r =>
    cases hz : decide (dp = 0 ∧ sp = 0) with
    | false => rw [hz] at h; exact (show False from h).elim
    | true =>
      rw [hz] at h
      obtain ⟨rfl, rfl⟩ := of_decide_eq_true hz
      cases hs8 : Nat.ble ((r.map fun v => v.category).sum) 8 with
      | false => rw [hs8] at h; exact (show False from h).elim
      | true =>
        rw [hs8] at h
        have h8 := Nat.le_of_ble_eq_true hs8
        rcases hq0 : zm_n ws a0 with _ | ⟨⟨k0, n0, f | f⟩ | y⟩
        · simp only [hq0, zm_cpy1] at h; exact (show False from h).elim
        · simp only [hq0, zm_cpy1] at h
          cases hk0 : Nat.beq k0 0 with
          | false => rw [hk0] at h; exact (show False from h).elim
          | true =>
            rw [hk0] at h
            have e0 := Nat.eq_of_beq_eq_true hk0
            subst e0
            rcases hq1 : zm_n ws a with _ | ⟨⟨k1, n1, g | g⟩ | y⟩
            · simp only [hq1, zm_cpy2] at h; exact (show False from h).elim
            · simp only [hq1, zm_cpy2] at h
              cases hk1 : Nat.beq k1 0 with
              | false => rw [hk1] at h; exact (show False from h).elim
              | true =>
                rw [hk1] at h
                have e1 := Nat.eq_of_beq_eq_true hk1
                subst e1
                have h2 : (¬ n < 0 ∧ n.toNatClampNeg ≤ n0 ∧ n.toNatClampNeg ≤ n1) ∧ zm_G p l e R s m args below meth c Q D cl tc ad A nL L (pc + 3, lv, r, ws.set a (.inl (0, n1, .inl (va_cpy f g 0 0 n.toNatClampNeg)))) := h
                intro H locs ls hL hP hD hS hn
                have z0 : (0 : Int32).toNatClampNeg = 0 := by decide
                refine va_copyi hx hb (hml.trans hL.1.symm) hown hlink hnat hstat hini hK hP hD hS a0 a 0 0 (zm_w_at hq0) (zm_w_at hq1) rfl rfl rfl (by decide) (by decide) h2.1.1 (by rw [z0]; omega) (by rw [z0]; omega) (fun i _ => rfl) hR.1 ?_ hd (fun H1 locs1 hP1 hD1 hS1 => h2.2 H1 locs1 ls hL (by rw [← zm_w_set0]; rw [z0] at hP1; exact hP1) (by rw [← zm_w_set0]; rw [z0] at hD1; exact hD1) hS1 (by rw [← hn]; exact List.length_set))
                have e5 : nativeFrameWords "java/lang/System" "arraycopy" 5 = 7 := by decide
                rw [e5, zm_cats]
                omega
            · simp only [hq1, zm_cpy2] at h; exact (show False from h).elim
            · simp only [hq1, zm_cpy2] at h; exact (show False from h).elim
        · simp only [hq0, zm_cpy1] at h; exact (show False from h).elim
        · simp only [hq0, zm_cpy1] at h; exact (show False from h).elim
  next => exact h.elim
theorem zg_min (hx : p.tables.exec = Jvm.exec) (hb : c.code = cc) (hml : c.maxLocals = nL) (hown : s.vm.findClass own = some m.cls)
    (hlink : (Jvm.Cond.methodLink own idx Lib.Math.min.name).before args s = true) (hstat : (Jvm.Cond.static Lib.Math.min.name).before args s = true) (hini : (Jvm.Cond.initialized "java/lang/Math").before args s = true) (hcode : (Jvm.Cond.code Lib.Math.min.name Lib.Math.min.code 2 (some .int)).before args s = true)
    (hd : decode cc pc = .ok (.invokestatic idx, 3)) (hR : 1 ≤ R.frames ∧ 60 ≤ R.locals)
    (h : zm_o ev (zm_G p l e R s m args below meth c Q D cl tc ad A nL L) v0 w0 (zm_min (pc + 3) lv ws st)) : zm_G p l e R s m args below meth c Q D cl tc ad A nL L (pc, lv, st, ws) := by
  unfold zm_min at h
  split at h
  next y x r =>
    cases hs8 : Nat.ble ((r.map fun v => v.category).sum) 8 with
    | false => rw [hs8] at h; exact (show False from h).elim
    | true =>
      rw [hs8] at h
      have h8 := Nat.le_of_ble_eq_true hs8
      intro H locs ls hL hP hD hS hn
      exact va_mmin hx hb (hml.trans hL.1.symm) hown hlink hstat hini hcode hR.1 (by rw [zm_cats]; omega) (Nat.zero_le _) (Nat.zero_le _) hd (h.2 H locs ls hL hP hD hS hn)
  next => exact h.elim
end ZMC
end
section
/-! Answers; one step whatever the instruction; a run of our machine is a contract. -/
abbrev zm_X : Type := List (Nat × Nat × Nat) × List (Nat × Nat × Nat × Nat) × List (Nat × Nat × Nat × Nat × Bool) × List (Nat × Int32) × List (Nat × Int64) × List Nat × List Nat
/-- what the constant pool of a class says, as the tables have it: fields read, fields written, methods, numbers, longs, arraycopy -/
def zm_okX (get : Nat → Option zm_M) (cl : List vw_C) (gw nw : List Jvm.Cond) (own : String) (X : zm_X) : Prop :=
  (∀ q ∈ X.1, zm_okF cl gw nw own q.1 q.2.1 q.2.2) ∧ (∀ q ∈ X.2.1, zm_okP cl gw nw own q.1 q.2.1 q.2.2.1 (zm_ft q.2.2.2)) ∧ (∀ q ∈ X.2.2.1, zm_okG get gw nw own q.1 q.2.1 q.2.2.1 q.2.2.2.1 q.2.2.2.2) ∧ (∀ q ∈ X.2.2.2.1, Jvm.Cond.constant own q.1 q.2 ∈ gw) ∧ (∀ q ∈ X.2.2.2.2.1, Jvm.Cond.constantLong own q.1 q.2 ∈ gw) ∧
  (∀ i ∈ X.2.2.2.2.2.1, Jvm.Cond.methodLink own i arraycopyName ∈ gw ∧ Jvm.Cond.native arraycopyName ∈ gw ∧ Jvm.Cond.static arraycopyName ∈ gw ∧ Jvm.Cond.initialized "java/lang/System" ∈ gw) ∧
  ∀ i ∈ X.2.2.2.2.2.2, Jvm.Cond.methodLink own i Lib.Math.min.name ∈ gw ∧ Jvm.Cond.static Lib.Math.min.name ∈ gw ∧ Jvm.Cond.initialized "java/lang/Math" ∈ gw ∧ Jvm.Cond.code Lib.Math.min.name Lib.Math.min.code 2 (some .int) ∈ gw
/-- an instruction's numbers are what the instruction says -/
def zm_okB (X : zm_X) (nL pc : Nat) (q : zm_I) : Bool :=
  match q.1 with
  | .iconst k => decide (q.2.1 = 1 ∧ Int32.ofInt k = q.2.2.1)
  | .bipush k => decide (q.2.1 = 2 ∧ (Int8.ofInt k).toInt32 = q.2.2.1)
  | .sipush k => decide (q.2.1 = 3 ∧ (Int16.ofInt k).toInt32 = q.2.2.1)
  | .ldc i => decide (q.2.1 = 2 ∧ (i, q.2.2.1) ∈ X.2.2.2.1)
  | .ldc_w i => decide (q.2.1 = 3 ∧ (i, q.2.2.1) ∈ X.2.2.2.1)
  | .lconst k => decide (q.2.1 = 1 ∧ Int64.ofNat (k : Nat) = q.2.2.2.1)
  | .ldc2_w i => decide (q.2.1 = 3 ∧ (i, q.2.2.2.1) ∈ X.2.2.2.2.1)
  | .iload_n k => decide (q.2.1 = 1 ∧ (k : Nat) = q.2.2.2.2.1)
  | .iload i => decide (q.2.1 = 2 ∧ i = q.2.2.2.2.1)
  | .lload_n k => decide (q.2.1 = 1 ∧ (k : Nat) = q.2.2.2.2.1)
  | .lload i => decide (q.2.1 = 2 ∧ i = q.2.2.2.2.1)
  | .aload_n k => decide (q.2.1 = 1 ∧ (k : Nat) = q.2.2.2.2.1)
  | .aload i => decide (q.2.1 = 2 ∧ i = q.2.2.2.2.1)
  | .istore_n k => decide (q.2.1 = 1 ∧ (k : Nat) = q.2.2.2.2.1 ∧ q.2.2.2.2.1 < nL)
  | .istore i => decide (q.2.1 = 2 ∧ i = q.2.2.2.2.1 ∧ q.2.2.2.2.1 < nL)
  | .lstore_n k => decide (q.2.1 = 1 ∧ (k : Nat) = q.2.2.2.2.1 ∧ q.2.2.2.2.1 + 1 < nL)
  | .lstore i => decide (q.2.1 = 2 ∧ i = q.2.2.2.2.1 ∧ q.2.2.2.2.1 + 1 < nL)
  | .astore_n k => decide (q.2.1 = 1 ∧ (k : Nat) = q.2.2.2.2.1 ∧ q.2.2.2.2.1 < nL)
  | .astore i => decide (q.2.1 = 2 ∧ i = q.2.2.2.2.1 ∧ q.2.2.2.2.1 < nL)
  | .iinc i k => decide (q.2.1 = 3 ∧ i = q.2.2.2.2.1 ∧ q.2.2.2.2.1 < nL ∧ Int32.ofInt k = q.2.2.1)
  | .ifCond _ off => decide (q.2.1 = 3 ∧ (pc : Int) + off = (q.2.2.2.2.1 : Int))
  | .if_icmp _ off => decide (q.2.1 = 3 ∧ (pc : Int) + off = (q.2.2.2.2.1 : Int))
  | .goto off => decide (q.2.1 = 3 ∧ (pc : Int) + off = (q.2.2.2.2.1 : Int))
  | .tableswitch d lo hi offs => decide (0 ≤ (pc : Int) + d) && (List.range (hi - lo + 1).toNat).all (fun i => match offs[i]? with
    | some off => decide (0 ≤ (pc : Int) + off)
    | none => false)
  | .getfield i => decide (q.2.1 = 3 ∧ (i, q.2.2.2.2.1, q.2.2.2.2.2.1) ∈ X.1)
  | .putfield i => decide (q.2.1 = 3 ∧ (i, q.2.2.2.2.1, q.2.2.2.2.2.1, q.2.2.2.2.2.2) ∈ X.2.1)
  | .invokevirtual i => decide (q.2.1 = 3 ∧ (i, q.2.2.2.2.1, q.2.2.2.2.2.1, q.2.2.2.2.2.2, false) ∈ X.2.2.1)
  | .invokestatic i => match Nat.beq q.2.2.2.2.2.2 99 with
    | true => decide (q.2.1 = 3 ∧ i ∈ X.2.2.2.2.2.1)
    | false => match Nat.beq q.2.2.2.2.2.2 98 with
      | true => decide (q.2.1 = 3 ∧ i ∈ X.2.2.2.2.2.2)
      | false => decide (q.2.1 = 3 ∧ (i, q.2.2.2.2.1, q.2.2.2.2.2.1, q.2.2.2.2.2.2, true) ∈ X.2.2.1)
  | _ => decide (q.2.1 = 1)
section ZMR
variable {p : Program} {l : Launch} {e : Env} {R : Room} {s : State} {m : MethodId} {args : Array Value} {below : List Frame} {meth : Method} {c : Code} {Q : State → Prop} {D : va_G} {cl : List vw_C} {tc : Nat → ClassId} {ad : Nat → Nat} {A : Nat → Prop} {nL L : Nat}
variable {cc : ByteArray} {pc : Nat} {lv : List (Option Value)} {st : List Value} {ws ws0 : List zm_E} {ev : Nat → List Value → List zm_E → Option Value → List zm_E → Prop} {v0 : Option Value} {w0 : List zm_E} {rt : Option FieldType}
variable {own : String} {gw nw : List Jvm.Cond} {get : Nat → Option zm_M} {d : Nat} {X : zm_X}

theorem zg_ri (hx : p.tables.exec = Jvm.exec) (hb : c.code = cc) (hr : meth.sig.returnType = rt) (hlocks : meth.locks = false) (hA : A = va_A (zm_w tc ad 0 ws0) s.heap.size) (hQ : Q = MQ below (zm_Qc D cl tc ad ws0 v0 w0 s.heap.size) args s 0 0 (va_A (zm_w tc ad 0 ws0) s.heap.size)) (hLn : L = ws0.length) (hd : decode cc pc = .ok (.ireturn, 1)) (h : zm_o ev (zm_G p l e R s m args below meth c Q D cl tc ad A nL L) v0 w0 (zm_ri ws rt st)) : zm_G p l e R s m args below meth c Q D cl tc ad A nL L (pc, lv, st, ws) := by
  subst hA; subst hQ; subst hLn
  unfold zm_ri at h
  split at h
  next x =>
    split at h
    next =>
      obtain ⟨h1, rfl, rfl⟩ : _ ∧ v0 = some (.int x) ∧ w0 = ws := h
      intro H locs ls hL hP hD hS hn
      exact W.iret hx hb hr (fun t ht hW => ⟨⟨rfl, by rw [ht]; exact hP, hn⟩, hS.F ht⟩) hS.2.2 hd (hlocks := hlocks)
    next =>
      obtain ⟨h1, rfl, rfl⟩ : _ ∧ v0 = some (.int x) ∧ w0 = ws := h
      intro H locs ls hL hP hD hS hn
      exact W.zret hx hb hr (by rcases h1 with rfl | rfl <;> decide) (fun t ht hW => ⟨⟨rfl, by rw [ht]; exact hP, hn⟩, hS.F ht⟩) hS.2.2 hd (hlocks := hlocks)
    next => exact (show False from h).elim
  next => exact h.elim
theorem zg_rl (hx : p.tables.exec = Jvm.exec) (hb : c.code = cc) (hr : meth.sig.returnType = rt) (hlocks : meth.locks = false) (hA : A = va_A (zm_w tc ad 0 ws0) s.heap.size) (hQ : Q = MQ below (zm_Qc D cl tc ad ws0 v0 w0 s.heap.size) args s 0 0 (va_A (zm_w tc ad 0 ws0) s.heap.size)) (hLn : L = ws0.length) (hd : decode cc pc = .ok (.lreturn, 1)) (h : zm_o ev (zm_G p l e R s m args below meth c Q D cl tc ad A nL L) v0 w0 (zm_rl ws rt st)) : zm_G p l e R s m args below meth c Q D cl tc ad A nL L (pc, lv, st, ws) := by
  subst hA; subst hQ; subst hLn
  unfold zm_rl at h
  split at h
  next x =>
    split at h
    next =>
      obtain ⟨h1, rfl, rfl⟩ : _ ∧ v0 = some (.long x) ∧ w0 = ws := h
      intro H locs ls hL hP hD hS hn
      exact W.lret hx hb hr (fun t ht hW => ⟨⟨rfl, by rw [ht]; exact hP, hn⟩, hS.F ht⟩) hS.2.2 hd (hlocks := hlocks)
    next => exact (show False from h).elim
  next => exact h.elim
theorem zg_ra (hx : p.tables.exec = Jvm.exec) (hb : c.code = cc) (hr : meth.sig.returnType = rt) (hlocks : meth.locks = false) (hA : A = va_A (zm_w tc ad 0 ws0) s.heap.size) (hQ : Q = MQ below (zm_Qc D cl tc ad ws0 v0 w0 s.heap.size) args s 0 0 (va_A (zm_w tc ad 0 ws0) s.heap.size)) (hLn : L = ws0.length) (hd : decode cc pc = .ok (.areturn, 1)) (h : zm_o ev (zm_G p l e R s m args below meth c Q D cl tc ad A nL L) v0 w0 (zm_ra ws rt st)) : zm_G p l e R s m args below meth c Q D cl tc ad A nL L (pc, lv, st, ws) := by
  subst hA; subst hQ; subst hLn
  unfold zm_ra at h
  split at h
  next x =>
    split at h
    next nm =>
      obtain ⟨h1, rfl, rfl⟩ : _ ∧ v0 = some (.ref x) ∧ w0 = ws := h
      intro H locs ls hL hP hD hS hn
      exact W.aret hx hb hr (Or.inl ⟨nm, rfl⟩) (Or.inr ⟨ad x, rfl⟩) (fun t ht hW => ⟨⟨rfl, by rw [ht]; exact hP, hn⟩, hS.F ht⟩) hS.2.2 hd (hlocks := hlocks)
    next => exact (show False from h).elim
  next => exact h.elim
theorem zg_rv (hx : p.tables.exec = Jvm.exec) (hb : c.code = cc) (hr : meth.sig.returnType = rt) (hlocks : meth.locks = false) (hA : A = va_A (zm_w tc ad 0 ws0) s.heap.size) (hQ : Q = MQ below (zm_Qc D cl tc ad ws0 v0 w0 s.heap.size) args s 0 0 (va_A (zm_w tc ad 0 ws0) s.heap.size)) (hLn : L = ws0.length) (hd : decode cc pc = .ok (.return_, 1)) (h : zm_o ev (zm_G p l e R s m args below meth c Q D cl tc ad A nL L) v0 w0 (zm_rv ws rt st)) : zm_G p l e R s m args below meth c Q D cl tc ad A nL L (pc, lv, st, ws) := by
  subst hA; subst hQ; subst hLn
  unfold zm_rv at h
  split at h
  next =>
    split at h
    next =>
      obtain ⟨h1, rfl, rfl⟩ : _ ∧ v0 = none ∧ w0 = ws := h
      intro H locs ls hL hP hD hS hn
      exact W.vret hx hb hr (fun t ht hW => ⟨⟨rfl, by rw [ht]; exact hP, hn⟩, hS.F ht⟩) hS.2.2 hd (hlocks := hlocks)
    next => exact (show False from h).elim
  next => exact h.elim
theorem zm_step (hx : p.tables.exec = Jvm.exec) (hb : c.code = cc) (hml : c.maxLocals = nL) (hr : meth.sig.returnType = rt) (hlocks : meth.locks = false) (htg : ∀ x ∈ gw, x.before args s = true) (hgood : zm_goodL gw) (hNw : ∀ x ∈ nw, va_Nw x s) (hnest : ∀ x ∈ nw, zm_nest x) (hown : s.vm.findClass own = some m.cls) (hK : va_K D cl (zm_tys tc) s)
    (hAe : A = va_A (zm_w tc ad 0 ws0) s.heap.size) (hQ : Q = MQ below (zm_Qc D cl tc ad ws0 v0 w0 s.heap.size) args s 0 0 (va_A (zm_w tc ad 0 ws0) s.heap.size)) (hLn : L = ws0.length)
    (hX : zm_okX get cl gw nw own X) (hokc : ∀ k M', get k = some M' → zm_okM cl gw M') (IH : zm_IH l get gw nw D cl tc ad d ev) (hR : d + 1 ≤ R.frames ∧ 60 * d + 60 ≤ R.locals)
    (q : zm_I) (hd : decode cc pc = .ok (q.1, q.2.1)) (hB : zm_okB X nL pc q = true) (h : zm_o ev (zm_G p l e R s m args below meth c Q D cl tc ad A nL L) v0 w0 (zm_x rt q pc lv st ws)) : zm_G p l e R s m args below meth c Q D cl tc ad A nL L (pc, lv, st, ws) := by
  have hA : ∀ q, s.heap.size ≤ q → A q := fun q h => by rw [hAe]; exact Or.inr h
  obtain ⟨I, len, ci, cl64, u, w, z⟩ := q
  dsimp only at hd
  cases I with
  | iconst k =>
    obtain ⟨hl, hv⟩ := of_decide_eq_true hB
    dsimp only at hl hv h hd
    subst hl; subst hv
    exact zg_iconst hx hb hd rfl h
  | bipush k =>
    obtain ⟨hl, hv⟩ := of_decide_eq_true hB
    dsimp only at hl hv h hd
    subst hl; subst hv
    exact zg_bipush hx hb hd rfl h
  | sipush k =>
    obtain ⟨hl, hv⟩ := of_decide_eq_true hB
    dsimp only at hl hv h hd
    subst hl; subst hv
    exact zg_sipush hx hb hd rfl h
  | ldc i =>
    obtain ⟨hl, hv⟩ := of_decide_eq_true hB
    dsimp only at hl hv h hd
    subst hl
    exact zg_ldc hx hb hd hown (htg _ (hX.2.2.2.1 _ hv)) h
  | ldc_w i =>
    obtain ⟨hl, hv⟩ := of_decide_eq_true hB
    dsimp only at hl hv h hd
    subst hl
    exact zg_ldc_w hx hb hd hown (htg _ (hX.2.2.2.1 _ hv)) h
  | lconst k =>
    obtain ⟨hl, hv⟩ := of_decide_eq_true hB
    dsimp only at hl hv h hd
    subst hl; subst hv
    exact zg_lconst hx hb hd rfl h
  | ldc2_w i =>
    obtain ⟨hl, hv⟩ := of_decide_eq_true hB
    dsimp only at hl hv h hd
    subst hl
    exact zg_ldc2 hx hb hd hown (htg _ (hX.2.2.2.2.1 _ hv)) h
  | iload_n k =>
    obtain ⟨hl, hv⟩ := of_decide_eq_true hB
    dsimp only at hl hv h hd
    subst hl
    exact zg_iload_n hx hb hd hv h
  | iload i =>
    obtain ⟨hl, hv⟩ := of_decide_eq_true hB
    dsimp only at hl hv h hd
    subst hl; subst hv
    exact zg_iload hx hb hd h
  | lload_n k =>
    obtain ⟨hl, hv⟩ := of_decide_eq_true hB
    dsimp only at hl hv h hd
    subst hl
    exact zg_lload_n hx hb hd hv h
  | lload i =>
    obtain ⟨hl, hv⟩ := of_decide_eq_true hB
    dsimp only at hl hv h hd
    subst hl; subst hv
    exact zg_lload hx hb hd h
  | aload_n k =>
    obtain ⟨hl, hv⟩ := of_decide_eq_true hB
    dsimp only at hl hv h hd
    subst hl
    exact zg_aload_n hx hb hd hv h
  | aload i =>
    obtain ⟨hl, hv⟩ := of_decide_eq_true hB
    dsimp only at hl hv h hd
    subst hl; subst hv
    exact zg_aload hx hb hd h
  | istore_n k =>
    obtain ⟨hl, hv, hu⟩ := of_decide_eq_true hB
    dsimp only at hl hv hu h hd
    subst hl
    exact zg_istore_n hx hb hd hv hu h
  | istore i =>
    obtain ⟨hl, hv, hu⟩ := of_decide_eq_true hB
    dsimp only at hl hv hu h hd
    subst hl; subst hv
    exact zg_istore hx hb hd hu h
  | lstore_n k =>
    obtain ⟨hl, hv, hu⟩ := of_decide_eq_true hB
    dsimp only at hl hv hu h hd
    subst hl
    exact zg_lstore_n hx hb hd hv hu h
  | lstore i =>
    obtain ⟨hl, hv, hu⟩ := of_decide_eq_true hB
    dsimp only at hl hv hu h hd
    subst hl; subst hv
    exact zg_lstore hx hb hd hu h
  | astore_n k =>
    obtain ⟨hl, hv, hu⟩ := of_decide_eq_true hB
    dsimp only at hl hv hu h hd
    subst hl
    exact zg_astore_n hx hb hd hv hu h
  | astore i =>
    obtain ⟨hl, hv, hu⟩ := of_decide_eq_true hB
    dsimp only at hl hv hu h hd
    subst hl; subst hv
    exact zg_astore hx hb hd hu h
  | iinc i k =>
    obtain ⟨hl, hv, hu, hk⟩ := of_decide_eq_true hB
    dsimp only at hl hv hu hk h hd
    subst hl; subst hv
    exact zg_iinc hx hb hd hk hu h
  | iadd =>
    have hl : len = 1 := of_decide_eq_true hB
    subst hl
    exact zg_iadd hx hb hd h
  | isub =>
    have hl : len = 1 := of_decide_eq_true hB
    subst hl
    exact zg_isub hx hb hd h
  | imul =>
    have hl : len = 1 := of_decide_eq_true hB
    subst hl
    exact zg_imul hx hb hd h
  | iand =>
    have hl : len = 1 := of_decide_eq_true hB
    subst hl
    exact zg_iand hx hb hd h
  | ishl =>
    have hl : len = 1 := of_decide_eq_true hB
    subst hl
    exact zg_ishl hx hb hd h
  | idiv =>
    have hl : len = 1 := of_decide_eq_true hB
    subst hl
    exact zg_idiv hx hb hd h
  | irem =>
    have hl : len = 1 := of_decide_eq_true hB
    subst hl
    exact zg_irem hx hb hd h
  | ineg =>
    have hl : len = 1 := of_decide_eq_true hB
    subst hl
    exact zg_ineg hx hb hd h
  | ladd =>
    have hl : len = 1 := of_decide_eq_true hB
    subst hl
    exact zg_ladd hx hb hd h
  | lsub =>
    have hl : len = 1 := of_decide_eq_true hB
    subst hl
    exact zg_lsub hx hb hd h
  | lmul =>
    have hl : len = 1 := of_decide_eq_true hB
    subst hl
    exact zg_lmul hx hb hd h
  | land =>
    have hl : len = 1 := of_decide_eq_true hB
    subst hl
    exact zg_land hx hb hd h
  | lor =>
    have hl : len = 1 := of_decide_eq_true hB
    subst hl
    exact zg_lor hx hb hd h
  | lxor =>
    have hl : len = 1 := of_decide_eq_true hB
    subst hl
    exact zg_lxor hx hb hd h
  | ldiv =>
    have hl : len = 1 := of_decide_eq_true hB
    subst hl
    exact zg_ldiv hx hb hd h
  | lrem =>
    have hl : len = 1 := of_decide_eq_true hB
    subst hl
    exact zg_lrem hx hb hd h
  | lneg =>
    have hl : len = 1 := of_decide_eq_true hB
    subst hl
    exact zg_lneg hx hb hd h
  | lshl =>
    have hl : len = 1 := of_decide_eq_true hB
    subst hl
    exact zg_lshl hx hb hd h
  | lshr =>
    have hl : len = 1 := of_decide_eq_true hB
    subst hl
    exact zg_lshr hx hb hd h
  | lushr =>
    have hl : len = 1 := of_decide_eq_true hB
    subst hl
    exact zg_lushr hx hb hd h
  | i2l =>
    have hl : len = 1 := of_decide_eq_true hB
    subst hl
    exact zg_i2l hx hb hd h
  | l2i =>
    have hl : len = 1 := of_decide_eq_true hB
    subst hl
    exact zg_l2i hx hb hd h
  | lcmp =>
    have hl : len = 1 := of_decide_eq_true hB
    subst hl
    exact zg_lcmp hx hb hd h
  | dup =>
    have hl : len = 1 := of_decide_eq_true hB
    subst hl
    exact zg_dup hx hb hd h
  | dup2 =>
    have hl : len = 1 := of_decide_eq_true hB
    subst hl
    exact zg_dup2 hx hb hd h
  | ifCond k off =>
    obtain ⟨hl, ht⟩ := of_decide_eq_true hB
    dsimp only at hl ht h hd
    subst hl
    cases k with
    | eq => exact zg_if_eq hx hb hd ht h
    | ne => exact zg_if_ne hx hb hd ht h
    | lt => exact zg_if_lt hx hb hd ht h
    | ge => exact zg_if_ge hx hb hd ht h
    | gt => exact zg_if_gt hx hb hd ht h
    | le => exact zg_if_le hx hb hd ht h
  | if_icmp k off =>
    obtain ⟨hl, ht⟩ := of_decide_eq_true hB
    dsimp only at hl ht h hd
    subst hl
    cases k with
    | eq => exact zg_icmp_eq hx hb hd ht h
    | ne => exact zg_icmp_ne hx hb hd ht h
    | lt => exact zg_icmp_lt hx hb hd ht h
    | ge => exact zg_icmp_ge hx hb hd ht h
    | gt => exact zg_icmp_gt hx hb hd ht h
    | le => exact zg_icmp_le hx hb hd ht h
  | goto off =>
    obtain ⟨hl, ht⟩ := of_decide_eq_true hB
    dsimp only at hl ht h hd
    subst hl
    exact zg_goto hx hb hd ht h
  | tableswitch dd lo hi offs =>
    simp only [zm_okB, Bool.and_eq_true, decide_eq_true_eq, List.all_eq_true, List.mem_range] at hB
    refine zg_switch hx hb hd ⟨hB.1, fun i hi2 => ?_⟩ h
    have h1 := hB.2 i (by omega)
    split at h1
    next off ho => exact ⟨off, ho, of_decide_eq_true h1⟩
    next => cases h1
  | getfield i =>
    obtain ⟨hl, hv⟩ := of_decide_eq_true hB
    dsimp only at hl hv h hd
    subst hl
    exact zg_get hx hb htg hNw hown hK hd (hX.1 _ hv) h
  | putfield i =>
    obtain ⟨hl, hv⟩ := of_decide_eq_true hB
    dsimp only at hl hv h hd
    subst hl
    exact zg_put hx hb htg hNw hown hK hd (hX.2.1 _ hv) h
  | iaload =>
    have hl : len = 1 := of_decide_eq_true hB
    subst hl
    exact zg_iaload hx hb hK hd h
  | baload =>
    have hl : len = 1 := of_decide_eq_true hB
    subst hl
    exact zg_baload hx hb hK hd h
  | laload =>
    have hl : len = 1 := of_decide_eq_true hB
    subst hl
    exact zg_laload hx hb hK hd h
  | iastore =>
    have hl : len = 1 := of_decide_eq_true hB
    subst hl
    exact zg_iastore hx hb hK hd h
  | bastore =>
    have hl : len = 1 := of_decide_eq_true hB
    subst hl
    exact zg_bastore hx hb hK hd h
  | lastore =>
    have hl : len = 1 := of_decide_eq_true hB
    subst hl
    exact zg_lastore hx hb hK hd h
  | invokevirtual i =>
    obtain ⟨hl, hv⟩ := of_decide_eq_true hB
    dsimp only at hl hv h hd
    subst hl
    exact zg_cv hx hb hml htg hgood hNw hnest hown hK hA hd (hX.2.2.1 _ hv) hokc IH hR h
  | invokestatic i =>
    cases hz : Nat.beq z 99 with
    | true =>
      simp only [zm_okB, hz] at hB
      simp only [zm_x, hz] at h
      obtain ⟨hl, hv⟩ := of_decide_eq_true hB
      subst hl
      obtain ⟨a1, a2, a3, a4⟩ := hX.2.2.2.2.2.1 _ hv
      exact zg_cpy hx hb hml hown hK (htg _ a1) (htg _ a2) (htg _ a3) (htg _ a4) hd ⟨by omega, by omega⟩ h
    | false =>
      cases hz2 : Nat.beq z 98 with
      | true =>
        simp only [zm_okB, hz, hz2] at hB
        simp only [zm_x, hz, hz2] at h
        obtain ⟨hl, hv⟩ := of_decide_eq_true hB
        subst hl
        obtain ⟨a1, a2, a3, a4⟩ := hX.2.2.2.2.2.2 _ hv
        exact zg_min hx hb hml hown (htg _ a1) (htg _ a2) (htg _ a3) (htg _ a4) hd ⟨by omega, by omega⟩ h
      | false =>
        simp only [zm_okB, hz, hz2] at hB
        simp only [zm_x, hz, hz2] at h
        obtain ⟨hl, hv⟩ := of_decide_eq_true hB
        subst hl
        exact zg_cs hx hb hml htg hgood hNw hnest hown hK hA hd (hX.2.2.1 _ hv) hokc IH hR h
  | ireturn =>
    have hl : len = 1 := of_decide_eq_true hB
    subst hl
    exact zg_ri hx hb hr hlocks hAe hQ hLn hd h
  | lreturn =>
    have hl : len = 1 := of_decide_eq_true hB
    subst hl
    exact zg_rl hx hb hr hlocks hAe hQ hLn hd h
  | areturn =>
    have hl : len = 1 := of_decide_eq_true hB
    subst hl
    exact zg_ra hx hb hr hlocks hAe hQ hLn hd h
  | return_ =>
    have hl : len = 1 := of_decide_eq_true hB
    subst hl
    exact zg_rv hx hb hr hlocks hAe hQ hLn hd h
  | _ => exact (show False from h).elim
theorem zm_le_L {ad : Nat → Nat} {ls : Array Slot} {nL : Nat} {a b : List (Option Value)} (hle : zm_le a b) (h : zm_L ad ls nL b) : zm_L ad ls nL a := by
  refine ⟨h.1, h.2.1, fun i v hi => h.2.2 i v ?_⟩
  have key : ∀ (a b : List (Option Value)) (i : Nat), zm_le a b → zm_n a i = some (some v) → zm_n b i = some (some v) := by
    intro a
    induction a with
    | nil => intro b i _ hi; cases hi
    | cons x a ih =>
      intro b i hle hi
      cases b with
      | nil => exact (show False from hle).elim
      | cons y b =>
        obtain ⟨h1, h2⟩ : (x = none ∨ x = y) ∧ zm_le a b := hle
        cases i with
        | zero =>
          cases hi
          rcases h1 with h1 | h1
          · cases h1
          · rw [← h1]; rfl
        | succ i => exact ih b i h2 hi
  exact key a b i hle hi
theorem zm_o_mono {ev : Nat → List Value → List zm_E → Option Value → List zm_E → Prop} {g1 g2 : zm_S → Prop} {v : Option Value} {w : List zm_E} {r : zm_R} (hg : ∀ t, g1 t → g2 t) (h : zm_o ev g1 v w r) : zm_o ev g2 v w r := by
  rcases r with _ | ⟨⟨c, t⟩ | ⟨c, t, f⟩ | ⟨c, v0, w0⟩ | ⟨k, as, t⟩⟩
  · exact h
  · exact ⟨h.1, hg _ h.2⟩
  · exact h.elim (fun q => Or.inl ⟨q.1, hg _ q.2⟩) (fun q => Or.inr ⟨q.1, hg _ q.2⟩)
  · exact h
  · obtain ⟨v1, w1, h1, h2⟩ := h
    exact ⟨v1, w1, h1, hg _ h2⟩
/-- a method's table is what its bytes say -/
def zm_okT (X : zm_X) (M : zm_M) : Prop := ∀ (pc : Nat) (q : zm_I), zm_n M.2.2.2.2.2.2.2 pc = some (some q) → decode M.2.1 pc = .ok (q.1, q.2.1) ∧ zm_okB X M.2.2.1 pc q = true
theorem zm_a0_has (ad : Nat → Nat) (as : List Value) : ∀ (i k : Nat) (v : Value), zm_n (zm_a0 as) i = some (some v) → (k + i, zm_v ad v) ∈ lv_args k (as.map (zm_v ad)) := by
  induction as with
  | nil => intro i k v h; cases h
  | cons a as ih =>
    have one : ∀ b : Value, b.category ≠ 2 → ∀ (i k : Nat) (v : Value), zm_n (some b :: zm_a0 as) i = some (some v) → (k + i, zm_v ad v) ∈ lv_args k ((b :: as).map (zm_v ad)) := by
      intro b hb i k v h
      show (k + i, zm_v ad v) ∈ (k, zm_v ad b) :: lv_args (if (zm_v ad b).category = 2 then k + 2 else k + 1) (as.map (zm_v ad))
      rw [zm_v_cat, if_neg hb]
      cases i with
      | zero => cases h; exact List.mem_cons_self
      | succ i =>
        refine List.mem_cons_of_mem _ ?_
        have := ih i (k + 1) v h
        rwa [show k + 1 + i = k + (i + 1) by omega] at this
    have two : ∀ b : Value, b.category = 2 → ∀ (i k : Nat) (v : Value), zm_n (some b :: none :: zm_a0 as) i = some (some v) → (k + i, zm_v ad v) ∈ lv_args k ((b :: as).map (zm_v ad)) := by
      intro b hb i k v h
      show (k + i, zm_v ad v) ∈ (k, zm_v ad b) :: lv_args (if (zm_v ad b).category = 2 then k + 2 else k + 1) (as.map (zm_v ad))
      rw [zm_v_cat, if_pos hb]
      rcases i with _ | _ | i
      · cases h; exact List.mem_cons_self
      · cases h
      · refine List.mem_cons_of_mem _ ?_
        have := ih i (k + 2) v h
        rwa [show k + 2 + i = k + (i + 2) by omega] at this
    cases a with
    | long x => exact two _ rfl
    | double x => exact two _ rfl
    | int x => exact one _ (by simp [Value.category])
    | float x => exact one _ (by simp [Value.category])
    | null => exact one _ (by simp [Value.category])
    | ref x => exact one _ (by simp [Value.category])
    | retAddr x => exact one _ (by simp [Value.category])
theorem zm_a0_len (ad : Nat → Nat) (as : List Value) : (lg_sl (as.map (zm_v ad))).length = (zm_a0 as).length := by
  induction as with
  | nil => rfl
  | cons a as ih =>
    have e : lg_sl ((a :: as).map (zm_v ad)) = (if (zm_v ad a).category = 2 then [.val (zm_v ad a), .second] else [.val (zm_v ad a)]) ++ lg_sl (as.map (zm_v ad)) := rfl
    rw [e, List.length_append, ih, zm_v_cat]
    cases a <;> simp [Value.category, zm_a0] <;> omega
theorem zm_n_app {as : List (Option Value)} {n i : Nat} {v : Value} (h : zm_n (as ++ List.replicate n none) i = some (some v)) : zm_n as i = some (some v) := by
  rw [zm_n_eq] at h ⊢
  by_cases hi : i < as.length
  · rwa [List.getElem?_append_left hi] at h
  · rw [List.getElem?_append_right (by omega)] at h
    have := List.eq_of_mem_replicate (List.mem_of_getElem? h)
    cases this

theorem zm_rn_G {M : zm_M} (hx : p.tables.exec = Jvm.exec) (hb : c.code = M.2.1) (hml : c.maxLocals = M.2.2.1) (hr : meth.sig.returnType = M.2.2.2.1) (hlocks : meth.locks = false) (htg : ∀ x ∈ gw, x.before args s = true) (hgood : zm_goodL gw) (hNw : ∀ x ∈ nw, va_Nw x s) (hnest : ∀ x ∈ nw, zm_nest x) (hown : s.vm.findClass own = some m.cls) (hK : va_K D cl (zm_tys tc) s)
    (hX : zm_okX get cl gw nw own X) (hT : zm_okT X M) (hokc : ∀ k M', get k = some M' → zm_okM cl gw M') (IH : zm_IH l get gw nw D cl tc ad d ev) (hR : d + 1 ≤ R.frames ∧ 60 * d + 60 ≤ R.locals) (n : Nat) : ∀ t : zm_S, zm_rn ev M v0 w0 n t → zm_G p l e R s m args below meth c (MQ below (zm_Qc D cl tc ad ws0 v0 w0 s.heap.size) args s 0 0 (va_A (zm_w tc ad 0 ws0) s.heap.size)) D cl tc ad (va_A (zm_w tc ad 0 ws0) s.heap.size) M.2.2.1 ws0.length t := by
  induction n with
  | zero => intro t h; exact (show False from h).elim
  | succ n ih =>
    intro t h
    rcases h with ⟨lv, hle, h⟩ | h
    · intro H locs ls hL hP hD hS hn
      exact ih _ h H locs ls (zm_le_L hle hL) hP hD hS hn
    · obtain ⟨pc, lv, st, ws⟩ := t
      have h2 := zm_o_mono ih h
      unfold zm_nx at h2
      split at h2
      next q hq =>
        obtain ⟨h3, h4⟩ := hT pc q hq
        exact zm_step hx hb hml hr hlocks htg hgood hNw hnest hown hK rfl rfl rfl hX hokc IH hR q h3 h4 h2
      next => exact (show False from h2).elim
end ZMR
/-- A RUN OF OUR MACHINE IS A CONTRACT -/
theorem zm_met {l : Launch} {get : Nat → Option zm_M} {gw nw : List Jvm.Cond} {D : va_G} {cl : List vw_C} {tc : Nat → ClassId} {ad : Nat → Nat} (hgood : zm_goodL gw) (hnest : ∀ x ∈ nw, zm_nest x) (hokc : ∀ k M', get k = some M' → zm_okM cl gw M') (hokx : ∀ k M', get k = some M' → ∃ X, zm_okX get cl gw nw M'.1.cls X ∧ zm_okT X M') (d : Nat) : zm_IH l get gw nw D cl tc ad d (zm_ev get d) := by
  induction d with
  | zero => intro k as ws v w h; exact (show False from h).elim
  | succ d ih =>
    intro k as ws v w h M hM sz
    obtain ⟨M', n, hM', hlen, hrn⟩ := h
    cases hM.symm.trans hM'
    obtain ⟨k1, k2, k3, k4, k5, k6, -, -⟩ := hokc k M hM
    obtain ⟨X, hX, hT⟩ := hokx k M hM
    refine Met.ofW (cc := M.2.1) (maxL := M.2.2.1) (ret := M.2.2.2.1) k1 rfl ?_
    intro p e s m args below meth c s₁ B hml hv
    obtain ⟨rfl, hsz, hP, hK, hD0, hNw⟩ := hv
    have hts := atoms_spec (ws := zm_ws gw M) B.pre
    have hown : s.vm.findClass M.1.cls = some m.cls := findClass_of_methodNamed B.named
    subst hsz
    have hl := lv_entry (as.map (zm_v ad)) (n := M.2.2.1) (by rw [zm_a0_len]; exact hlen)
    rw [lg_entry_eq]
    refine zm_rn_G (ws0 := ws) (R := zm_rm (d + 1)) B.exec B.bytes hml B.returns B.notSynchronized (fun x hx => hts x (List.mem_cons_of_mem _ hx)) hgood hNw hnest hown hK hX hT hokc ih ⟨Nat.le_refl _, by show 60 * d + 60 ≤ 60 * (d + 1); omega⟩ n _ hrn s.heap [] _ ⟨hl.1, hl.2.1, fun i v hi => ?_⟩ hP hD0.self va_S.rf rfl
    have h1 := zm_a0_has ad as i 0 v (zm_n_app hi)
    rw [Nat.zero_add] at h1
    exact hl.2.2 _ h1
end
section
/-! How a run of our machine is proved: goal first, many steps at once. -/
section ZR
variable {get : Nat → Option zm_M} {d : Nat} {M : zm_M} {Q : Option Value → List zm_E → Prop}
theorem zr_step {s : zm_S} {c : Option Prop} {t : zm_S} (h : zm_nx M s = some (.inl (c, t))) (hc : zm_c c) (k : zm_Run get d M t Q) : zm_Run get d M s Q := by
  obtain ⟨n, v, w, h1, h2⟩ := k
  exact ⟨n + 1, v, w, Or.inr (by rw [h]; exact ⟨hc, h1⟩), h2⟩
theorem zr_go {s t : zm_S} (n : Nat) (h : zm_un M n s = some t) (k : zm_Run get d M t Q) : zm_Run get d M s Q := by
  induction n generalizing s with
  | zero => cases h; exact k
  | succ n ih =>
    unfold zm_un at h
    split at h
    next t1 h1 => exact zr_step h1 trivial (ih h)
    next => cases h
theorem zr_cd {s t : zm_S} {c : Prop} (h : zm_nx M s = some (.inl (some c, t))) (hc : c) (k : zm_Run get d M t Q) : zm_Run get d M s Q := zr_step h hc k
theorem zr_if {s t f : zm_S} {c : Prop} (h : zm_nx M s = some (.inr (.inl (c, t, f)))) (k1 : c → zm_Run get d M t Q) (k2 : ¬ c → zm_Run get d M f Q) : zm_Run get d M s Q := by
  by_cases hc : c
  · obtain ⟨n, v, w, h1, h2⟩ := k1 hc
    exact ⟨n + 1, v, w, Or.inr (by rw [h]; exact Or.inl ⟨hc, h1⟩), h2⟩
  · obtain ⟨n, v, w, h1, h2⟩ := k2 hc
    exact ⟨n + 1, v, w, Or.inr (by rw [h]; exact Or.inr ⟨hc, h1⟩), h2⟩
theorem zr_ret {s : zm_S} {c : Prop} {v : Option Value} {w : List zm_E} (h : zm_nx M s = some (.inr (.inr (.inl (c, v, w))))) (hc : c) (hQ : Q v w) : zm_Run get d M s Q :=
  ⟨1, v, w, Or.inr (by rw [h]; exact ⟨hc, rfl, rfl⟩), hQ⟩
theorem zr_forget {s : zm_S} (lv : List (Option Value)) (h : zm_le lv s.2.1) (k : zm_Run get d M (s.1, lv, s.2.2) Q) : zm_Run get d M s Q := by
  obtain ⟨n, v, w, h1, h2⟩ := k
  exact ⟨n + 1, v, w, Or.inl ⟨lv, h, h1⟩, h2⟩
theorem zr_post {s : zm_S} {Q' : Option Value → List zm_E → Prop} (k : zm_Run get d M s Q') (h : ∀ v w, Q' v w → Q v w) : zm_Run get d M s Q := by
  obtain ⟨n, v, w, h1, h2⟩ := k
  exact ⟨n, v, w, h1, h v w h2⟩
theorem zm_o_ev {e1 e2 : Nat → List Value → List zm_E → Option Value → List zm_E → Prop} {g1 g2 : zm_S → Prop} {v : Option Value} {w : List zm_E} {r : zm_R} (he : ∀ k as ws v w, e1 k as ws v w → e2 k as ws v w) (hg : ∀ t, g1 t → g2 t) (h : zm_o e1 g1 v w r) : zm_o e2 g2 v w r := by
  rcases r with _ | ⟨⟨c, t⟩ | ⟨c, t, f⟩ | ⟨c, v0, w0⟩ | ⟨k, as, t⟩⟩
  · exact h
  · exact ⟨h.1, hg _ h.2⟩
  · exact h.elim (fun q => Or.inl ⟨q.1, hg _ q.2⟩) (fun q => Or.inr ⟨q.1, hg _ q.2⟩)
  · exact h
  · obtain ⟨v1, w1, h1, h2⟩ := h
    exact ⟨v1, w1, he _ _ _ _ _ h1, hg _ h2⟩
theorem zm_rn_ev {e1 e2 : Nat → List Value → List zm_E → Option Value → List zm_E → Prop} {v : Option Value} {w : List zm_E} (he : ∀ k as ws v w, e1 k as ws v w → e2 k as ws v w) (n : Nat) : ∀ s, zm_rn e1 M v w n s → zm_rn e2 M v w n s := by
  induction n with
  | zero => intro s h; exact h
  | succ n ih =>
    intro s h
    rcases h with ⟨lv, h1, h2⟩ | h
    · exact Or.inl ⟨lv, h1, ih _ h2⟩
    · exact Or.inr (zm_o_ev he ih h)
theorem zm_ev_up (d : Nat) : ∀ k as ws v w, zm_ev get d k as ws v w → zm_ev get (d + 1) k as ws v w := by
  induction d with
  | zero => intro k as ws v w h; exact (show False from h).elim
  | succ d ih =>
    intro k as ws v w h
    obtain ⟨M, n, h1, h2, h3⟩ := h
    exact ⟨M, n, h1, h2, zm_rn_ev ih n _ h3⟩
theorem zm_ev_le {d d' : Nat} (h : d ≤ d') {k : Nat} {as : List Value} {ws : List zm_E} {v : Option Value} {w : List zm_E} (he : zm_ev get d k as ws v w) : zm_ev get d' k as ws v w := by
  induction h with
  | refl => exact he
  | step _ ih => exact zm_ev_up _ _ _ _ _ _ ih
/-- a call: the callee's own row, at a depth that is small enough -/
theorem zr_call {s t : zm_S} {k d' : Nat} {as : List Value} {P : Option Value → List zm_E → Prop} (h : zm_nx M s = some (.inr (.inr (.inr (k, as, t))))) (hd : d' ≤ d) (he : zm_Ev get d' k as t.2.2.2 P) (kk : ∀ v w, P v w → zm_Run get d M (t.1, t.2.1, v.toList ++ t.2.2.1, w) Q) : zm_Run get d M s Q := by
  obtain ⟨v1, w1, h1, h2⟩ := he
  obtain ⟨n, v, w, h3, h4⟩ := kk v1 w1 h2
  exact ⟨n + 1, v, w, Or.inr (by rw [h]; exact ⟨v1, w1, zm_ev_le hd h1, h3⟩), h4⟩
theorem zr_ev {k : Nat} {as : List Value} {ws : List zm_E} (M : zm_M) (hM : get k = some M) (hl : Nat.ble (zm_a0 as).length M.2.2.1 = true) (h : zm_Run get d M (zm_in M as ws) Q) : zm_Ev get (d + 1) k as ws Q := by
  obtain ⟨n, v, w, h1, h2⟩ := h
  exact ⟨v, w, ⟨M, n, hM, Nat.le_of_ble_eq_true hl, h1⟩, h2⟩
theorem zr_evp {k : Nat} {as : List Value} {ws : List zm_E} {Q' : Option Value → List zm_E → Prop} (h : zm_Ev get d k as ws Q') (hq : ∀ v w, Q' v w → Q v w) : zm_Ev get d k as ws Q := by
  obtain ⟨v, w, h1, h2⟩ := h
  exact ⟨v, w, h1, hq v w h2⟩
/-- what two rows say of one run goes together: our machine has one answer only where this is used through 'zr_evp' -/
theorem zr_up {k d' : Nat} {as : List Value} {ws : List zm_E} (hd : d' ≤ d) (h : zm_Ev get d' k as ws Q) : zm_Ev get d k as ws Q := by
  obtain ⟨v, w, h1, h2⟩ := h
  exact ⟨v, w, zm_ev_le hd h1, h2⟩
end ZR
end
section
-- ===== PART A: goes FIRST, ahead of the names: the tables' words, and 'selects' of the private methods out of them =====
/-- a private method of a class that the tables say can be made, by its rows of tables_1 -/
def lw_okq (q : MethodName × Nat) : Prop := (q.1.cls ≠ "java/lang/invoke/MethodHandle" ∧ q.1.cls ≠ "java/lang/invoke/VarHandle") ∧ Cond.instantiable q.1.cls q.2 ∈ tables_1 ∧ Cond.privateMethod q.1 ∈ tables_1 ∧ Cond.instanceMethod q.1 ∈ tables_1
theorem lw_p0 : lw_okq (⟨"QuadricFlats$Page", "append", "(I)V"⟩, 6) := ⟨⟨by decide +kernel, by decide +kernel⟩, List.mem_of_getElem? (i := 21) (by decide +kernel), List.mem_of_getElem? (i := 254) (by decide +kernel), List.mem_of_getElem? (i := 255) (by decide +kernel)⟩
theorem lw_p1 : lw_okq (⟨"QuadricFlats$Page", "firstWrong", "()I"⟩, 6) := ⟨⟨by decide +kernel, by decide +kernel⟩, List.mem_of_getElem? (i := 21) (by decide +kernel), List.mem_of_getElem? (i := 266) (by decide +kernel), List.mem_of_getElem? (i := 267) (by decide +kernel)⟩
theorem lw_p2 : lw_okq (⟨"QuadricFlats$Page", "accepts", "(II)Z"⟩, 6) := ⟨⟨by decide +kernel, by decide +kernel⟩, List.mem_of_getElem? (i := 21) (by decide +kernel), List.mem_of_getElem? (i := 270) (by decide +kernel), List.mem_of_getElem? (i := 271) (by decide +kernel)⟩
theorem lw_p3 : lw_okq (⟨"QuadricFlats$Page", "mostVariables", "()I"⟩, 6) := ⟨⟨by decide +kernel, by decide +kernel⟩, List.mem_of_getElem? (i := 21) (by decide +kernel), List.mem_of_getElem? (i := 274) (by decide +kernel), List.mem_of_getElem? (i := 275) (by decide +kernel)⟩
theorem lw_p4 : lw_okq (⟨"QuadricFlats$Page", "endsRow", "()Z"⟩, 6) := ⟨⟨by decide +kernel, by decide +kernel⟩, List.mem_of_getElem? (i := 21) (by decide +kernel), List.mem_of_getElem? (i := 278) (by decide +kernel), List.mem_of_getElem? (i := 279) (by decide +kernel)⟩
theorem lw_p5 : lw_okq (⟨"QuadricFlats$Page", "addsDigit", "(I)Z"⟩, 6) := ⟨⟨by decide +kernel, by decide +kernel⟩, List.mem_of_getElem? (i := 21) (by decide +kernel), List.mem_of_getElem? (i := 282) (by decide +kernel), List.mem_of_getElem? (i := 283) (by decide +kernel)⟩
theorem lw_p6 : lw_okq (⟨"QuadricFlats$Page", "isText", "()Z"⟩, 6) := ⟨⟨by decide +kernel, by decide +kernel⟩, List.mem_of_getElem? (i := 21) (by decide +kernel), List.mem_of_getElem? (i := 290) (by decide +kernel), List.mem_of_getElem? (i := 291) (by decide +kernel)⟩
theorem lw_p7 : lw_okq (⟨"QuadricFlats$Page", "copyTo", "(LQuadricFlats$Form;)V"⟩, 6) := ⟨⟨by decide +kernel, by decide +kernel⟩, List.mem_of_getElem? (i := 21) (by decide +kernel), List.mem_of_getElem? (i := 295) (by decide +kernel), List.mem_of_getElem? (i := 296) (by decide +kernel)⟩
theorem lw_p8 : lw_okq (⟨"QuadricFlats$Form", "store", "(III)V"⟩, 4) := ⟨⟨by decide +kernel, by decide +kernel⟩, List.mem_of_getElem? (i := 49) (by decide +kernel), List.mem_of_getElem? (i := 299) (by decide +kernel), List.mem_of_getElem? (i := 300) (by decide +kernel)⟩
theorem lw_p9 : lw_okq (⟨"QuadricFlats$Quadric", "layPoints", "(LQuadricFlats$Form;)V"⟩, 11) := ⟨⟨by decide +kernel, by decide +kernel⟩, List.mem_of_getElem? (i := 74) (by decide +kernel), List.mem_of_getElem? (i := 306) (by decide +kernel), List.mem_of_getElem? (i := 307) (by decide +kernel)⟩
theorem lw_p10 : lw_okq (⟨"QuadricFlats$Quadric", "layPoint", "(I)V"⟩, 11) := ⟨⟨by decide +kernel, by decide +kernel⟩, List.mem_of_getElem? (i := 74) (by decide +kernel), List.mem_of_getElem? (i := 313) (by decide +kernel), List.mem_of_getElem? (i := 314) (by decide +kernel)⟩
theorem lw_p11 : lw_okq (⟨"QuadricFlats", "forget", "()V"⟩, 15) := ⟨⟨by decide +kernel, by decide +kernel⟩, List.mem_of_getElem? (i := 13) (by decide +kernel), List.mem_of_getElem? (i := 318) (by decide +kernel), List.mem_of_getElem? (i := 319) (by decide +kernel)⟩
theorem lw_p12 : lw_okq (⟨"QuadricFlats", "hasForm", "()Z"⟩, 15) := ⟨⟨by decide +kernel, by decide +kernel⟩, List.mem_of_getElem? (i := 13) (by decide +kernel), List.mem_of_getElem? (i := 326) (by decide +kernel), List.mem_of_getElem? (i := 327) (by decide +kernel)⟩
theorem lw_p13 : lw_okq (⟨"QuadricFlats$Quadric", "survey", "(LQuadricFlats$Form;)V"⟩, 11) := ⟨⟨by decide +kernel, by decide +kernel⟩, List.mem_of_getElem? (i := 74) (by decide +kernel), List.mem_of_getElem? (i := 330) (by decide +kernel), List.mem_of_getElem? (i := 331) (by decide +kernel)⟩
theorem lw_p14 : lw_okq (⟨"QuadricFlats$Quadric", "measure", "(LQuadricFlats$Form;I)I"⟩, 11) := ⟨⟨by decide +kernel, by decide +kernel⟩, List.mem_of_getElem? (i := 74) (by decide +kernel), List.mem_of_getElem? (i := 334) (by decide +kernel), List.mem_of_getElem? (i := 335) (by decide +kernel)⟩
theorem lw_p15 : lw_okq (⟨"QuadricFlats$Form", "cell", "(II)I"⟩, 4) := ⟨⟨by decide +kernel, by decide +kernel⟩, List.mem_of_getElem? (i := 49) (by decide +kernel), List.mem_of_getElem? (i := 338) (by decide +kernel), List.mem_of_getElem? (i := 339) (by decide +kernel)⟩
def lw_privs_1 : List (MethodName × Nat) := [(⟨"QuadricFlats$Page", "append", "(I)V"⟩, 6), (⟨"QuadricFlats$Page", "firstWrong", "()I"⟩, 6), (⟨"QuadricFlats$Page", "accepts", "(II)Z"⟩, 6), (⟨"QuadricFlats$Page", "mostVariables", "()I"⟩, 6), (⟨"QuadricFlats$Page", "endsRow", "()Z"⟩, 6), (⟨"QuadricFlats$Page", "addsDigit", "(I)Z"⟩, 6), (⟨"QuadricFlats$Page", "isText", "()Z"⟩, 6), (⟨"QuadricFlats$Page", "copyTo", "(LQuadricFlats$Form;)V"⟩, 6), (⟨"QuadricFlats$Form", "store", "(III)V"⟩, 4), (⟨"QuadricFlats$Quadric", "layPoints", "(LQuadricFlats$Form;)V"⟩, 11), (⟨"QuadricFlats$Quadric", "layPoint", "(I)V"⟩, 11), (⟨"QuadricFlats", "forget", "()V"⟩, 15), (⟨"QuadricFlats", "hasForm", "()Z"⟩, 15), (⟨"QuadricFlats$Quadric", "survey", "(LQuadricFlats$Form;)V"⟩, 11), (⟨"QuadricFlats$Quadric", "measure", "(LQuadricFlats$Form;I)I"⟩, 11), (⟨"QuadricFlats$Form", "cell", "(II)I"⟩, 4)]
theorem lw_r1 : ∀ q ∈ lw_privs_1, lw_okq q := List.forall_mem_cons.mpr ⟨lw_p0, List.forall_mem_cons.mpr ⟨lw_p1, List.forall_mem_cons.mpr ⟨lw_p2, List.forall_mem_cons.mpr ⟨lw_p3, List.forall_mem_cons.mpr ⟨lw_p4, List.forall_mem_cons.mpr ⟨lw_p5, List.forall_mem_cons.mpr ⟨lw_p6, List.forall_mem_cons.mpr ⟨lw_p7, List.forall_mem_cons.mpr ⟨lw_p8, List.forall_mem_cons.mpr ⟨lw_p9, List.forall_mem_cons.mpr ⟨lw_p10, List.forall_mem_cons.mpr ⟨lw_p11, List.forall_mem_cons.mpr ⟨lw_p12, List.forall_mem_cons.mpr ⟨lw_p13, List.forall_mem_cons.mpr ⟨lw_p14, List.forall_mem_cons.mpr ⟨lw_p15, fun _ h => absurd h List.not_mem_nil⟩⟩⟩⟩⟩⟩⟩⟩⟩⟩⟩⟩⟩⟩⟩⟩
theorem lw_p16 : lw_okq (⟨"QuadricFlats$Quadric", "isSingular", "(I)Z"⟩, 11) := ⟨⟨by decide +kernel, by decide +kernel⟩, List.mem_of_getElem? (i := 74) (by decide +kernel), List.mem_of_getElem? (i := 342) (by decide +kernel), List.mem_of_getElem? (i := 343) (by decide +kernel)⟩
theorem lw_p17 : lw_okq (⟨"QuadricFlats$Quadric", "kind", "()I"⟩, 11) := ⟨⟨by decide +kernel, by decide +kernel⟩, List.mem_of_getElem? (i := 74) (by decide +kernel), List.mem_of_getElem? (i := 346) (by decide +kernel), List.mem_of_getElem? (i := 347) (by decide +kernel)⟩
theorem lw_p18 : lw_okq (⟨"QuadricFlats$Quadric", "isHyperbolic", "()Z"⟩, 11) := ⟨⟨by decide +kernel, by decide +kernel⟩, List.mem_of_getElem? (i := 74) (by decide +kernel), List.mem_of_getElem? (i := 350) (by decide +kernel), List.mem_of_getElem? (i := 351) (by decide +kernel)⟩
theorem lw_p19 : lw_okq (⟨"QuadricFlats$Form", "discriminant", "()I"⟩, 4) := ⟨⟨by decide +kernel, by decide +kernel⟩, List.mem_of_getElem? (i := 49) (by decide +kernel), List.mem_of_getElem? (i := 354) (by decide +kernel), List.mem_of_getElem? (i := 355) (by decide +kernel)⟩
theorem lw_p20 : lw_okq (⟨"QuadricFlats$Form", "determinant", "()I"⟩, 4) := ⟨⟨by decide +kernel, by decide +kernel⟩, List.mem_of_getElem? (i := 49) (by decide +kernel), List.mem_of_getElem? (i := 358) (by decide +kernel), List.mem_of_getElem? (i := 359) (by decide +kernel)⟩
theorem lw_p21 : lw_okq (⟨"QuadricFlats$Form", "pivotRow", "(I)I"⟩, 4) := ⟨⟨by decide +kernel, by decide +kernel⟩, List.mem_of_getElem? (i := 49) (by decide +kernel), List.mem_of_getElem? (i := 363) (by decide +kernel), List.mem_of_getElem? (i := 364) (by decide +kernel)⟩
theorem lw_p22 : lw_okq (⟨"QuadricFlats$Form", "exchangeRows", "(II)V"⟩, 4) := ⟨⟨by decide +kernel, by decide +kernel⟩, List.mem_of_getElem? (i := 49) (by decide +kernel), List.mem_of_getElem? (i := 367) (by decide +kernel), List.mem_of_getElem? (i := 368) (by decide +kernel)⟩
theorem lw_p23 : lw_okq (⟨"QuadricFlats$Form", "clearBelow", "(I)V"⟩, 4) := ⟨⟨by decide +kernel, by decide +kernel⟩, List.mem_of_getElem? (i := 49) (by decide +kernel), List.mem_of_getElem? (i := 371) (by decide +kernel), List.mem_of_getElem? (i := 372) (by decide +kernel)⟩
theorem lw_p24 : lw_okq (⟨"QuadricFlats$Quadric", "index", "()I"⟩, 11) := ⟨⟨by decide +kernel, by decide +kernel⟩, List.mem_of_getElem? (i := 74) (by decide +kernel), List.mem_of_getElem? (i := 378) (by decide +kernel), List.mem_of_getElem? (i := 379) (by decide +kernel)⟩
theorem lw_p25 : lw_okq (⟨"QuadricFlats$Form", "hasVariable", "(I)Z"⟩, 4) := ⟨⟨by decide +kernel, by decide +kernel⟩, List.mem_of_getElem? (i := 49) (by decide +kernel), List.mem_of_getElem? (i := 386) (by decide +kernel), List.mem_of_getElem? (i := 387) (by decide +kernel)⟩
theorem lw_p26 : lw_okq (⟨"QuadricFlats", "hasPoint", "(I)Z"⟩, 15) := ⟨⟨by decide +kernel, by decide +kernel⟩, List.mem_of_getElem? (i := 13) (by decide +kernel), List.mem_of_getElem? (i := 395) (by decide +kernel), List.mem_of_getElem? (i := 396) (by decide +kernel)⟩
theorem lw_p27 : lw_okq (⟨"QuadricFlats$Quadric", "product", "([III)I"⟩, 11) := ⟨⟨by decide +kernel, by decide +kernel⟩, List.mem_of_getElem? (i := 74) (by decide +kernel), List.mem_of_getElem? (i := 407) (by decide +kernel), List.mem_of_getElem? (i := 408) (by decide +kernel)⟩
theorem lw_p28 : lw_okq (⟨"QuadricFlats$Quadric", "areCollinear", "(II)Z"⟩, 11) := ⟨⟨by decide +kernel, by decide +kernel⟩, List.mem_of_getElem? (i := 74) (by decide +kernel), List.mem_of_getElem? (i := 415) (by decide +kernel), List.mem_of_getElem? (i := 416) (by decide +kernel)⟩
theorem lw_p29 : lw_okq (⟨"QuadricFlats$Quadric", "isOn", "(I)Z"⟩, 11) := ⟨⟨by decide +kernel, by decide +kernel⟩, List.mem_of_getElem? (i := 74) (by decide +kernel), List.mem_of_getElem? (i := 419) (by decide +kernel), List.mem_of_getElem? (i := 420) (by decide +kernel)⟩
theorem lw_p30 : lw_okq (⟨"QuadricFlats$Quadric", "sectionSize", "(I)I"⟩, 11) := ⟨⟨by decide +kernel, by decide +kernel⟩, List.mem_of_getElem? (i := 74) (by decide +kernel), List.mem_of_getElem? (i := 428) (by decide +kernel), List.mem_of_getElem? (i := 429) (by decide +kernel)⟩
theorem lw_p31 : lw_okq (⟨"QuadricFlats$Quadric", "tangentPoint", "(I)I"⟩, 11) := ⟨⟨by decide +kernel, by decide +kernel⟩, List.mem_of_getElem? (i := 74) (by decide +kernel), List.mem_of_getElem? (i := 432) (by decide +kernel), List.mem_of_getElem? (i := 433) (by decide +kernel)⟩
def lw_privs_2 : List (MethodName × Nat) := [(⟨"QuadricFlats$Quadric", "isSingular", "(I)Z"⟩, 11), (⟨"QuadricFlats$Quadric", "kind", "()I"⟩, 11), (⟨"QuadricFlats$Quadric", "isHyperbolic", "()Z"⟩, 11), (⟨"QuadricFlats$Form", "discriminant", "()I"⟩, 4), (⟨"QuadricFlats$Form", "determinant", "()I"⟩, 4), (⟨"QuadricFlats$Form", "pivotRow", "(I)I"⟩, 4), (⟨"QuadricFlats$Form", "exchangeRows", "(II)V"⟩, 4), (⟨"QuadricFlats$Form", "clearBelow", "(I)V"⟩, 4), (⟨"QuadricFlats$Quadric", "index", "()I"⟩, 11), (⟨"QuadricFlats$Form", "hasVariable", "(I)Z"⟩, 4), (⟨"QuadricFlats", "hasPoint", "(I)Z"⟩, 15), (⟨"QuadricFlats$Quadric", "product", "([III)I"⟩, 11), (⟨"QuadricFlats$Quadric", "areCollinear", "(II)Z"⟩, 11), (⟨"QuadricFlats$Quadric", "isOn", "(I)Z"⟩, 11), (⟨"QuadricFlats$Quadric", "sectionSize", "(I)I"⟩, 11), (⟨"QuadricFlats$Quadric", "tangentPoint", "(I)I"⟩, 11)]
theorem lw_r2 : ∀ q ∈ lw_privs_2, lw_okq q := List.forall_mem_cons.mpr ⟨lw_p16, List.forall_mem_cons.mpr ⟨lw_p17, List.forall_mem_cons.mpr ⟨lw_p18, List.forall_mem_cons.mpr ⟨lw_p19, List.forall_mem_cons.mpr ⟨lw_p20, List.forall_mem_cons.mpr ⟨lw_p21, List.forall_mem_cons.mpr ⟨lw_p22, List.forall_mem_cons.mpr ⟨lw_p23, List.forall_mem_cons.mpr ⟨lw_p24, List.forall_mem_cons.mpr ⟨lw_p25, List.forall_mem_cons.mpr ⟨lw_p26, List.forall_mem_cons.mpr ⟨lw_p27, List.forall_mem_cons.mpr ⟨lw_p28, List.forall_mem_cons.mpr ⟨lw_p29, List.forall_mem_cons.mpr ⟨lw_p30, List.forall_mem_cons.mpr ⟨lw_p31, fun _ h => absurd h List.not_mem_nil⟩⟩⟩⟩⟩⟩⟩⟩⟩⟩⟩⟩⟩⟩⟩⟩
theorem lw_p32 : lw_okq (⟨"QuadricFlats$Quadric", "vectorPoint", "()I"⟩, 11) := ⟨⟨by decide +kernel, by decide +kernel⟩, List.mem_of_getElem? (i := 74) (by decide +kernel), List.mem_of_getElem? (i := 436) (by decide +kernel), List.mem_of_getElem? (i := 437) (by decide +kernel)⟩
theorem lw_p33 : lw_okq (⟨"QuadricFlats", "hasFlats", "()Z"⟩, 15) := ⟨⟨by decide +kernel, by decide +kernel⟩, List.mem_of_getElem? (i := 13) (by decide +kernel), List.mem_of_getElem? (i := 445) (by decide +kernel), List.mem_of_getElem? (i := 446) (by decide +kernel)⟩
theorem lw_p34 : lw_okq (⟨"QuadricFlats$Flats", "build", "(LQuadricFlats$Quadric;)V"⟩, 6) := ⟨⟨by decide +kernel, by decide +kernel⟩, List.mem_of_getElem? (i := 125) (by decide +kernel), List.mem_of_getElem? (i := 449) (by decide +kernel), List.mem_of_getElem? (i := 450) (by decide +kernel)⟩
theorem lw_p35 : lw_okq (⟨"QuadricFlats$Flats", "findLinks", "(LQuadricFlats$Quadric;)V"⟩, 6) := ⟨⟨by decide +kernel, by decide +kernel⟩, List.mem_of_getElem? (i := 125) (by decide +kernel), List.mem_of_getElem? (i := 454) (by decide +kernel), List.mem_of_getElem? (i := 455) (by decide +kernel)⟩
theorem lw_p36 : lw_okq (⟨"QuadricFlats$Flats", "addLines", "(I)V"⟩, 6) := ⟨⟨by decide +kernel, by decide +kernel⟩, List.mem_of_getElem? (i := 125) (by decide +kernel), List.mem_of_getElem? (i := 459) (by decide +kernel), List.mem_of_getElem? (i := 460) (by decide +kernel)⟩
theorem lw_p37 : lw_okq (⟨"QuadricFlats$Flats", "spanned", "(J)J"⟩, 6) := ⟨⟨by decide +kernel, by decide +kernel⟩, List.mem_of_getElem? (i := 125) (by decide +kernel), List.mem_of_getElem? (i := 464) (by decide +kernel), List.mem_of_getElem? (i := 465) (by decide +kernel)⟩
theorem lw_p38 : lw_okq (⟨"QuadricFlats$Flats", "linkedWithAll", "(J)J"⟩, 6) := ⟨⟨by decide +kernel, by decide +kernel⟩, List.mem_of_getElem? (i := 125) (by decide +kernel), List.mem_of_getElem? (i := 468) (by decide +kernel), List.mem_of_getElem? (i := 469) (by decide +kernel)⟩
theorem lw_p39 : lw_okq (⟨"QuadricFlats$Flats", "addPlanes", "(J)V"⟩, 6) := ⟨⟨by decide +kernel, by decide +kernel⟩, List.mem_of_getElem? (i := 125) (by decide +kernel), List.mem_of_getElem? (i := 472) (by decide +kernel), List.mem_of_getElem? (i := 473) (by decide +kernel)⟩
theorem lw_p40 : lw_okq (⟨"QuadricFlats", "fillSides", "()V"⟩, 15) := ⟨⟨by decide +kernel, by decide +kernel⟩, List.mem_of_getElem? (i := 13) (by decide +kernel), List.mem_of_getElem? (i := 479) (by decide +kernel), List.mem_of_getElem? (i := 480) (by decide +kernel)⟩
theorem lw_p41 : lw_okq (⟨"QuadricFlats$Flats", "totalOf", "(I)I"⟩, 6) := ⟨⟨by decide +kernel, by decide +kernel⟩, List.mem_of_getElem? (i := 125) (by decide +kernel), List.mem_of_getElem? (i := 484) (by decide +kernel), List.mem_of_getElem? (i := 485) (by decide +kernel)⟩
theorem lw_p42 : lw_okq (⟨"QuadricFlats$Flats", "maskOf", "(II)J"⟩, 6) := ⟨⟨by decide +kernel, by decide +kernel⟩, List.mem_of_getElem? (i := 125) (by decide +kernel), List.mem_of_getElem? (i := 488) (by decide +kernel), List.mem_of_getElem? (i := 489) (by decide +kernel)⟩
theorem lw_p43 : lw_okq (⟨"QuadricFlats$Side", "findClashes", "(LQuadricFlats$Side;)V"⟩, 5) := ⟨⟨by decide +kernel, by decide +kernel⟩, List.mem_of_getElem? (i := 153) (by decide +kernel), List.mem_of_getElem? (i := 492) (by decide +kernel), List.mem_of_getElem? (i := 493) (by decide +kernel)⟩
theorem lw_p44 : lw_okq (⟨"QuadricFlats", "isMember", "(I)Z"⟩, 15) := ⟨⟨by decide +kernel, by decide +kernel⟩, List.mem_of_getElem? (i := 13) (by decide +kernel), List.mem_of_getElem? (i := 513) (by decide +kernel), List.mem_of_getElem? (i := 514) (by decide +kernel)⟩
theorem lw_p45 : lw_okq (⟨"QuadricFlats", "isGreatest", "(I)Z"⟩, 15) := ⟨⟨by decide +kernel, by decide +kernel⟩, List.mem_of_getElem? (i := 13) (by decide +kernel), List.mem_of_getElem? (i := 517) (by decide +kernel), List.mem_of_getElem? (i := 518) (by decide +kernel)⟩
theorem lw_p46 : lw_okq (⟨"QuadricFlats$Side", "refuses", "(I)Z"⟩, 5) := ⟨⟨by decide +kernel, by decide +kernel⟩, List.mem_of_getElem? (i := 153) (by decide +kernel), List.mem_of_getElem? (i := 525) (by decide +kernel), List.mem_of_getElem? (i := 526) (by decide +kernel)⟩
theorem lw_p47 : lw_okq (⟨"QuadricFlats$Side", "taken", "()J"⟩, 5) := ⟨⟨by decide +kernel, by decide +kernel⟩, List.mem_of_getElem? (i := 153) (by decide +kernel), List.mem_of_getElem? (i := 529) (by decide +kernel), List.mem_of_getElem? (i := 530) (by decide +kernel)⟩
def lw_privs_3 : List (MethodName × Nat) := [(⟨"QuadricFlats$Quadric", "vectorPoint", "()I"⟩, 11), (⟨"QuadricFlats", "hasFlats", "()Z"⟩, 15), (⟨"QuadricFlats$Flats", "build", "(LQuadricFlats$Quadric;)V"⟩, 6), (⟨"QuadricFlats$Flats", "findLinks", "(LQuadricFlats$Quadric;)V"⟩, 6), (⟨"QuadricFlats$Flats", "addLines", "(I)V"⟩, 6), (⟨"QuadricFlats$Flats", "spanned", "(J)J"⟩, 6), (⟨"QuadricFlats$Flats", "linkedWithAll", "(J)J"⟩, 6), (⟨"QuadricFlats$Flats", "addPlanes", "(J)V"⟩, 6), (⟨"QuadricFlats", "fillSides", "()V"⟩, 15), (⟨"QuadricFlats$Flats", "totalOf", "(I)I"⟩, 6), (⟨"QuadricFlats$Flats", "maskOf", "(II)J"⟩, 6), (⟨"QuadricFlats$Side", "findClashes", "(LQuadricFlats$Side;)V"⟩, 5), (⟨"QuadricFlats", "isMember", "(I)Z"⟩, 15), (⟨"QuadricFlats", "isGreatest", "(I)Z"⟩, 15), (⟨"QuadricFlats$Side", "refuses", "(I)Z"⟩, 5), (⟨"QuadricFlats$Side", "taken", "()J"⟩, 5)]
theorem lw_r3 : ∀ q ∈ lw_privs_3, lw_okq q := List.forall_mem_cons.mpr ⟨lw_p32, List.forall_mem_cons.mpr ⟨lw_p33, List.forall_mem_cons.mpr ⟨lw_p34, List.forall_mem_cons.mpr ⟨lw_p35, List.forall_mem_cons.mpr ⟨lw_p36, List.forall_mem_cons.mpr ⟨lw_p37, List.forall_mem_cons.mpr ⟨lw_p38, List.forall_mem_cons.mpr ⟨lw_p39, List.forall_mem_cons.mpr ⟨lw_p40, List.forall_mem_cons.mpr ⟨lw_p41, List.forall_mem_cons.mpr ⟨lw_p42, List.forall_mem_cons.mpr ⟨lw_p43, List.forall_mem_cons.mpr ⟨lw_p44, List.forall_mem_cons.mpr ⟨lw_p45, List.forall_mem_cons.mpr ⟨lw_p46, List.forall_mem_cons.mpr ⟨lw_p47, fun _ h => absurd h List.not_mem_nil⟩⟩⟩⟩⟩⟩⟩⟩⟩⟩⟩⟩⟩⟩⟩⟩
theorem lw_p48 : lw_okq (⟨"QuadricFlats$Side", "append", "(I)V"⟩, 5) := ⟨⟨by decide +kernel, by decide +kernel⟩, List.mem_of_getElem? (i := 153) (by decide +kernel), List.mem_of_getElem? (i := 533) (by decide +kernel), List.mem_of_getElem? (i := 534) (by decide +kernel)⟩
theorem lw_p49 : lw_okq (⟨"QuadricFlats", "sideOf", "(I)LQuadricFlats$Side;"⟩, 15) := ⟨⟨by decide +kernel, by decide +kernel⟩, List.mem_of_getElem? (i := 13) (by decide +kernel), List.mem_of_getElem? (i := 545) (by decide +kernel), List.mem_of_getElem? (i := 546) (by decide +kernel)⟩
theorem lw_p50 : lw_okq (⟨"QuadricFlats", "entryOf", "(II)I"⟩, 15) := ⟨⟨by decide +kernel, by decide +kernel⟩, List.mem_of_getElem? (i := 13) (by decide +kernel), List.mem_of_getElem? (i := 549) (by decide +kernel), List.mem_of_getElem? (i := 550) (by decide +kernel)⟩
theorem lw_p51 : lw_okq (⟨"QuadricFlats", "missing", "(I)I"⟩, 15) := ⟨⟨by decide +kernel, by decide +kernel⟩, List.mem_of_getElem? (i := 13) (by decide +kernel), List.mem_of_getElem? (i := 561) (by decide +kernel), List.mem_of_getElem? (i := 562) (by decide +kernel)⟩
theorem lw_p52 : lw_okq (⟨"QuadricFlats$Side", "covered", "()J"⟩, 5) := ⟨⟨by decide +kernel, by decide +kernel⟩, List.mem_of_getElem? (i := 153) (by decide +kernel), List.mem_of_getElem? (i := 565) (by decide +kernel), List.mem_of_getElem? (i := 566) (by decide +kernel)⟩
theorem lw_p53 : lw_okq (⟨"QuadricFlats", "searchOf", "(I)LQuadricFlats$Search;"⟩, 15) := ⟨⟨by decide +kernel, by decide +kernel⟩, List.mem_of_getElem? (i := 13) (by decide +kernel), List.mem_of_getElem? (i := 573) (by decide +kernel), List.mem_of_getElem? (i := 574) (by decide +kernel)⟩
theorem lw_p54 : lw_okq (⟨"QuadricFlats$Search", "run", "()V"⟩, 4) := ⟨⟨by decide +kernel, by decide +kernel⟩, List.mem_of_getElem? (i := 183) (by decide +kernel), List.mem_of_getElem? (i := 577) (by decide +kernel), List.mem_of_getElem? (i := 578) (by decide +kernel)⟩
theorem lw_p55 : lw_okq (⟨"QuadricFlats$Side", "everything", "()J"⟩, 5) := ⟨⟨by decide +kernel, by decide +kernel⟩, List.mem_of_getElem? (i := 153) (by decide +kernel), List.mem_of_getElem? (i := 581) (by decide +kernel), List.mem_of_getElem? (i := 582) (by decide +kernel)⟩
theorem lw_p56 : lw_okq (⟨"QuadricFlats$Side", "clashing", "()J"⟩, 5) := ⟨⟨by decide +kernel, by decide +kernel⟩, List.mem_of_getElem? (i := 153) (by decide +kernel), List.mem_of_getElem? (i := 588) (by decide +kernel), List.mem_of_getElem? (i := 589) (by decide +kernel)⟩
theorem lw_p57 : lw_okq (⟨"QuadricFlats$Search", "walk", "(JJJI)V"⟩, 4) := ⟨⟨by decide +kernel, by decide +kernel⟩, List.mem_of_getElem? (i := 183) (by decide +kernel), List.mem_of_getElem? (i := 593) (by decide +kernel), List.mem_of_getElem? (i := 594) (by decide +kernel)⟩
theorem lw_p58 : lw_okq (⟨"QuadricFlats$Search", "note", "(J)V"⟩, 4) := ⟨⟨by decide +kernel, by decide +kernel⟩, List.mem_of_getElem? (i := 183) (by decide +kernel), List.mem_of_getElem? (i := 597) (by decide +kernel), List.mem_of_getElem? (i := 598) (by decide +kernel)⟩
theorem lw_p59 : lw_okq (⟨"QuadricFlats$Search", "fewestChoices", "(JJ)J"⟩, 4) := ⟨⟨by decide +kernel, by decide +kernel⟩, List.mem_of_getElem? (i := 183) (by decide +kernel), List.mem_of_getElem? (i := 601) (by decide +kernel), List.mem_of_getElem? (i := 602) (by decide +kernel)⟩
theorem lw_p60 : lw_okq (⟨"QuadricFlats$Side", "appendAll", "(J)V"⟩, 5) := ⟨⟨by decide +kernel, by decide +kernel⟩, List.mem_of_getElem? (i := 153) (by decide +kernel), List.mem_of_getElem? (i := 609) (by decide +kernel), List.mem_of_getElem? (i := 610) (by decide +kernel)⟩
theorem lw_p61 : lw_okq (⟨"QuadricFlats$Form", "exchange", "(II)V"⟩, 4) := ⟨⟨by decide +kernel, by decide +kernel⟩, List.mem_of_getElem? (i := 49) (by decide +kernel), List.mem_of_getElem? (i := 627) (by decide +kernel), List.mem_of_getElem? (i := 628) (by decide +kernel)⟩
theorem lw_p62 : lw_okq (⟨"QuadricFlats", "memberTotal", "()I"⟩, 15) := ⟨⟨by decide +kernel, by decide +kernel⟩, List.mem_of_getElem? (i := 13) (by decide +kernel), List.mem_of_getElem? (i := 632) (by decide +kernel), List.mem_of_getElem? (i := 633) (by decide +kernel)⟩
theorem lw_p63 : lw_okq (⟨"QuadricFlats$Form", "shear", "(III)V"⟩, 4) := ⟨⟨by decide +kernel, by decide +kernel⟩, List.mem_of_getElem? (i := 49) (by decide +kernel), List.mem_of_getElem? (i := 640) (by decide +kernel), List.mem_of_getElem? (i := 641) (by decide +kernel)⟩
def lw_privs_4 : List (MethodName × Nat) := [(⟨"QuadricFlats$Side", "append", "(I)V"⟩, 5), (⟨"QuadricFlats", "sideOf", "(I)LQuadricFlats$Side;"⟩, 15), (⟨"QuadricFlats", "entryOf", "(II)I"⟩, 15), (⟨"QuadricFlats", "missing", "(I)I"⟩, 15), (⟨"QuadricFlats$Side", "covered", "()J"⟩, 5), (⟨"QuadricFlats", "searchOf", "(I)LQuadricFlats$Search;"⟩, 15), (⟨"QuadricFlats$Search", "run", "()V"⟩, 4), (⟨"QuadricFlats$Side", "everything", "()J"⟩, 5), (⟨"QuadricFlats$Side", "clashing", "()J"⟩, 5), (⟨"QuadricFlats$Search", "walk", "(JJJI)V"⟩, 4), (⟨"QuadricFlats$Search", "note", "(J)V"⟩, 4), (⟨"QuadricFlats$Search", "fewestChoices", "(JJ)J"⟩, 4), (⟨"QuadricFlats$Side", "appendAll", "(J)V"⟩, 5), (⟨"QuadricFlats$Form", "exchange", "(II)V"⟩, 4), (⟨"QuadricFlats", "memberTotal", "()I"⟩, 15), (⟨"QuadricFlats$Form", "shear", "(III)V"⟩, 4)]
theorem lw_r4 : ∀ q ∈ lw_privs_4, lw_okq q := List.forall_mem_cons.mpr ⟨lw_p48, List.forall_mem_cons.mpr ⟨lw_p49, List.forall_mem_cons.mpr ⟨lw_p50, List.forall_mem_cons.mpr ⟨lw_p51, List.forall_mem_cons.mpr ⟨lw_p52, List.forall_mem_cons.mpr ⟨lw_p53, List.forall_mem_cons.mpr ⟨lw_p54, List.forall_mem_cons.mpr ⟨lw_p55, List.forall_mem_cons.mpr ⟨lw_p56, List.forall_mem_cons.mpr ⟨lw_p57, List.forall_mem_cons.mpr ⟨lw_p58, List.forall_mem_cons.mpr ⟨lw_p59, List.forall_mem_cons.mpr ⟨lw_p60, List.forall_mem_cons.mpr ⟨lw_p61, List.forall_mem_cons.mpr ⟨lw_p62, List.forall_mem_cons.mpr ⟨lw_p63, fun _ h => absurd h List.not_mem_nil⟩⟩⟩⟩⟩⟩⟩⟩⟩⟩⟩⟩⟩⟩⟩⟩
theorem lw_p64 : lw_okq (⟨"QuadricFlats$Form", "stretch", "(II)V"⟩, 4) := ⟨⟨by decide +kernel, by decide +kernel⟩, List.mem_of_getElem? (i := 49) (by decide +kernel), List.mem_of_getElem? (i := 648) (by decide +kernel), List.mem_of_getElem? (i := 649) (by decide +kernel)⟩
theorem lw_p65 : lw_okq (⟨"QuadricFlats$Form", "multiply", "(I)V"⟩, 4) := ⟨⟨by decide +kernel, by decide +kernel⟩, List.mem_of_getElem? (i := 49) (by decide +kernel), List.mem_of_getElem? (i := 656) (by decide +kernel), List.mem_of_getElem? (i := 657) (by decide +kernel)⟩
theorem lw_p66 : lw_okq (⟨"QuadricFlats$Form", "copyFrom", "(LQuadricFlats$Form;)V"⟩, 4) := ⟨⟨by decide +kernel, by decide +kernel⟩, List.mem_of_getElem? (i := 49) (by decide +kernel), List.mem_of_getElem? (i := 664) (by decide +kernel), List.mem_of_getElem? (i := 665) (by decide +kernel)⟩
theorem lw_p67 : lw_okq (⟨"QuadricFlats", "pointTotal", "()I"⟩, 15) := ⟨⟨by decide +kernel, by decide +kernel⟩, List.mem_of_getElem? (i := 13) (by decide +kernel), List.mem_of_getElem? (i := 696) (by decide +kernel), List.mem_of_getElem? (i := 697) (by decide +kernel)⟩
theorem lw_p68 : lw_okq (⟨"QuadricFlats", "digestForm", "(J)J"⟩, 15) := ⟨⟨by decide +kernel, by decide +kernel⟩, List.mem_of_getElem? (i := 13) (by decide +kernel), List.mem_of_getElem? (i := 705) (by decide +kernel), List.mem_of_getElem? (i := 706) (by decide +kernel)⟩
theorem lw_p69 : lw_okq (⟨"QuadricFlats", "digestFlats", "(J)J"⟩, 15) := ⟨⟨by decide +kernel, by decide +kernel⟩, List.mem_of_getElem? (i := 13) (by decide +kernel), List.mem_of_getElem? (i := 711) (by decide +kernel), List.mem_of_getElem? (i := 712) (by decide +kernel)⟩
theorem lw_p70 : lw_okq (⟨"QuadricFlatsModel", "read", "()I"⟩, 47) := ⟨⟨by decide +kernel, by decide +kernel⟩, List.mem_of_getElem? (i := 716) (by decide +kernel), List.mem_of_getElem? (i := 880) (by decide +kernel), List.mem_of_getElem? (i := 881) (by decide +kernel)⟩
theorem lw_p71 : lw_okq (⟨"QuadricFlatsModel", "takes", "(II)Z"⟩, 47) := ⟨⟨by decide +kernel, by decide +kernel⟩, List.mem_of_getElem? (i := 716) (by decide +kernel), List.mem_of_getElem? (i := 884) (by decide +kernel), List.mem_of_getElem? (i := 885) (by decide +kernel)⟩
theorem lw_p72 : lw_okq (⟨"QuadricFlatsModel", "takesDigit", "(I)Z"⟩, 47) := ⟨⟨by decide +kernel, by decide +kernel⟩, List.mem_of_getElem? (i := 716) (by decide +kernel), List.mem_of_getElem? (i := 888) (by decide +kernel), List.mem_of_getElem? (i := 889) (by decide +kernel)⟩
theorem lw_p73 : lw_okq (⟨"QuadricFlatsModel", "takesSlash", "(I)Z"⟩, 47) := ⟨⟨by decide +kernel, by decide +kernel⟩, List.mem_of_getElem? (i := 716) (by decide +kernel), List.mem_of_getElem? (i := 895) (by decide +kernel), List.mem_of_getElem? (i := 896) (by decide +kernel)⟩
theorem lw_p74 : lw_okq (⟨"QuadricFlatsModel", "layPoints", "()V"⟩, 47) := ⟨⟨by decide +kernel, by decide +kernel⟩, List.mem_of_getElem? (i := 716) (by decide +kernel), List.mem_of_getElem? (i := 903) (by decide +kernel), List.mem_of_getElem? (i := 904) (by decide +kernel)⟩
theorem lw_p75 : lw_okq (⟨"QuadricFlatsModel", "layRow", "(I)V"⟩, 47) := ⟨⟨by decide +kernel, by decide +kernel⟩, List.mem_of_getElem? (i := 716) (by decide +kernel), List.mem_of_getElem? (i := 907) (by decide +kernel), List.mem_of_getElem? (i := 908) (by decide +kernel)⟩
theorem lw_p76 : lw_okq (⟨"QuadricFlatsModel", "layNew", "()V"⟩, 47) := ⟨⟨by decide +kernel, by decide +kernel⟩, List.mem_of_getElem? (i := 716) (by decide +kernel), List.mem_of_getElem? (i := 914) (by decide +kernel), List.mem_of_getElem? (i := 915) (by decide +kernel)⟩
theorem lw_p77 : lw_okq (⟨"QuadricFlatsModel", "layForm", "()V"⟩, 47) := ⟨⟨by decide +kernel, by decide +kernel⟩, List.mem_of_getElem? (i := 716) (by decide +kernel), List.mem_of_getElem? (i := 918) (by decide +kernel), List.mem_of_getElem? (i := 919) (by decide +kernel)⟩
theorem lw_p78 : lw_okq (⟨"QuadricFlatsModel", "valueAt", "(I)I"⟩, 47) := ⟨⟨by decide +kernel, by decide +kernel⟩, List.mem_of_getElem? (i := 716) (by decide +kernel), List.mem_of_getElem? (i := 922) (by decide +kernel), List.mem_of_getElem? (i := 923) (by decide +kernel)⟩
theorem lw_p79 : lw_okq (⟨"QuadricFlatsModel", "take", "(I[I)V"⟩, 47) := ⟨⟨by decide +kernel, by decide +kernel⟩, List.mem_of_getElem? (i := 716) (by decide +kernel), List.mem_of_getElem? (i := 926) (by decide +kernel), List.mem_of_getElem? (i := 927) (by decide +kernel)⟩
def lw_privs_5 : List (MethodName × Nat) := [(⟨"QuadricFlats$Form", "stretch", "(II)V"⟩, 4), (⟨"QuadricFlats$Form", "multiply", "(I)V"⟩, 4), (⟨"QuadricFlats$Form", "copyFrom", "(LQuadricFlats$Form;)V"⟩, 4), (⟨"QuadricFlats", "pointTotal", "()I"⟩, 15), (⟨"QuadricFlats", "digestForm", "(J)J"⟩, 15), (⟨"QuadricFlats", "digestFlats", "(J)J"⟩, 15), (⟨"QuadricFlatsModel", "read", "()I"⟩, 47), (⟨"QuadricFlatsModel", "takes", "(II)Z"⟩, 47), (⟨"QuadricFlatsModel", "takesDigit", "(I)Z"⟩, 47), (⟨"QuadricFlatsModel", "takesSlash", "(I)Z"⟩, 47), (⟨"QuadricFlatsModel", "layPoints", "()V"⟩, 47), (⟨"QuadricFlatsModel", "layRow", "(I)V"⟩, 47), (⟨"QuadricFlatsModel", "layNew", "()V"⟩, 47), (⟨"QuadricFlatsModel", "layForm", "()V"⟩, 47), (⟨"QuadricFlatsModel", "valueAt", "(I)I"⟩, 47), (⟨"QuadricFlatsModel", "take", "(I[I)V"⟩, 47)]
theorem lw_r5 : ∀ q ∈ lw_privs_5, lw_okq q := List.forall_mem_cons.mpr ⟨lw_p64, List.forall_mem_cons.mpr ⟨lw_p65, List.forall_mem_cons.mpr ⟨lw_p66, List.forall_mem_cons.mpr ⟨lw_p67, List.forall_mem_cons.mpr ⟨lw_p68, List.forall_mem_cons.mpr ⟨lw_p69, List.forall_mem_cons.mpr ⟨lw_p70, List.forall_mem_cons.mpr ⟨lw_p71, List.forall_mem_cons.mpr ⟨lw_p72, List.forall_mem_cons.mpr ⟨lw_p73, List.forall_mem_cons.mpr ⟨lw_p74, List.forall_mem_cons.mpr ⟨lw_p75, List.forall_mem_cons.mpr ⟨lw_p76, List.forall_mem_cons.mpr ⟨lw_p77, List.forall_mem_cons.mpr ⟨lw_p78, List.forall_mem_cons.mpr ⟨lw_p79, fun _ h => absurd h List.not_mem_nil⟩⟩⟩⟩⟩⟩⟩⟩⟩⟩⟩⟩⟩⟩⟩⟩
theorem lw_p80 : lw_okq (⟨"QuadricFlatsModel", "valueOf", "([I)I"⟩, 47) := ⟨⟨by decide +kernel, by decide +kernel⟩, List.mem_of_getElem? (i := 716) (by decide +kernel), List.mem_of_getElem? (i := 930) (by decide +kernel), List.mem_of_getElem? (i := 931) (by decide +kernel)⟩
theorem lw_p81 : lw_okq (⟨"QuadricFlatsModel", "isSingular", "(I)Z"⟩, 47) := ⟨⟨by decide +kernel, by decide +kernel⟩, List.mem_of_getElem? (i := 716) (by decide +kernel), List.mem_of_getElem? (i := 934) (by decide +kernel), List.mem_of_getElem? (i := 935) (by decide +kernel)⟩
theorem lw_p82 : lw_okq (⟨"QuadricFlatsModel", "polarAt", "(II)I"⟩, 47) := ⟨⟨by decide +kernel, by decide +kernel⟩, List.mem_of_getElem? (i := 716) (by decide +kernel), List.mem_of_getElem? (i := 938) (by decide +kernel), List.mem_of_getElem? (i := 939) (by decide +kernel)⟩
theorem lw_p83 : lw_okq (⟨"QuadricFlatsModel", "polarOf", "([I[I)I"⟩, 47) := ⟨⟨by decide +kernel, by decide +kernel⟩, List.mem_of_getElem? (i := 716) (by decide +kernel), List.mem_of_getElem? (i := 942) (by decide +kernel), List.mem_of_getElem? (i := 943) (by decide +kernel)⟩
theorem lw_p84 : lw_okq (⟨"QuadricFlatsModel", "layLines", "()V"⟩, 47) := ⟨⟨by decide +kernel, by decide +kernel⟩, List.mem_of_getElem? (i := 716) (by decide +kernel), List.mem_of_getElem? (i := 949) (by decide +kernel), List.mem_of_getElem? (i := 950) (by decide +kernel)⟩
theorem lw_p85 : lw_okq (⟨"QuadricFlatsModel", "layLine", "(II)V"⟩, 47) := ⟨⟨by decide +kernel, by decide +kernel⟩, List.mem_of_getElem? (i := 716) (by decide +kernel), List.mem_of_getElem? (i := 953) (by decide +kernel), List.mem_of_getElem? (i := 954) (by decide +kernel)⟩
theorem lw_p86 : lw_okq (⟨"QuadricFlatsModel", "addTo", "(I)V"⟩, 47) := ⟨⟨by decide +kernel, by decide +kernel⟩, List.mem_of_getElem? (i := 716) (by decide +kernel), List.mem_of_getElem? (i := 957) (by decide +kernel), List.mem_of_getElem? (i := 958) (by decide +kernel)⟩
theorem lw_p87 : lw_okq (⟨"QuadricFlatsModel", "mix", "(IIII)I"⟩, 47) := ⟨⟨by decide +kernel, by decide +kernel⟩, List.mem_of_getElem? (i := 716) (by decide +kernel), List.mem_of_getElem? (i := 961) (by decide +kernel), List.mem_of_getElem? (i := 962) (by decide +kernel)⟩
theorem lw_p88 : lw_okq (⟨"QuadricFlatsModel", "pointOf", "([I)I"⟩, 47) := ⟨⟨by decide +kernel, by decide +kernel⟩, List.mem_of_getElem? (i := 716) (by decide +kernel), List.mem_of_getElem? (i := 965) (by decide +kernel), List.mem_of_getElem? (i := 966) (by decide +kernel)⟩
theorem lw_p89 : lw_okq (⟨"QuadricFlatsModel", "areOn", "()Z"⟩, 47) := ⟨⟨by decide +kernel, by decide +kernel⟩, List.mem_of_getElem? (i := 716) (by decide +kernel), List.mem_of_getElem? (i := 969) (by decide +kernel), List.mem_of_getElem? (i := 970) (by decide +kernel)⟩
theorem lw_p90 : lw_okq (⟨"QuadricFlatsModel", "layPlanes", "()V"⟩, 47) := ⟨⟨by decide +kernel, by decide +kernel⟩, List.mem_of_getElem? (i := 716) (by decide +kernel), List.mem_of_getElem? (i := 973) (by decide +kernel), List.mem_of_getElem? (i := 974) (by decide +kernel)⟩
theorem lw_p91 : lw_okq (⟨"QuadricFlatsModel", "layPlane", "(II)V"⟩, 47) := ⟨⟨by decide +kernel, by decide +kernel⟩, List.mem_of_getElem? (i := 716) (by decide +kernel), List.mem_of_getElem? (i := 977) (by decide +kernel), List.mem_of_getElem? (i := 978) (by decide +kernel)⟩
theorem lw_p92 : lw_okq (⟨"QuadricFlatsModel", "isIn", "(I)Z"⟩, 47) := ⟨⟨by decide +kernel, by decide +kernel⟩, List.mem_of_getElem? (i := 716) (by decide +kernel), List.mem_of_getElem? (i := 981) (by decide +kernel), List.mem_of_getElem? (i := 982) (by decide +kernel)⟩
theorem lw_p93 : lw_okq (⟨"QuadricFlatsModel", "widen", "(I)V"⟩, 47) := ⟨⟨by decide +kernel, by decide +kernel⟩, List.mem_of_getElem? (i := 716) (by decide +kernel), List.mem_of_getElem? (i := 985) (by decide +kernel), List.mem_of_getElem? (i := 986) (by decide +kernel)⟩
theorem lw_p94 : lw_okq (⟨"QuadricFlatsModel", "isOfLine", "(II)Z"⟩, 47) := ⟨⟨by decide +kernel, by decide +kernel⟩, List.mem_of_getElem? (i := 716) (by decide +kernel), List.mem_of_getElem? (i := 989) (by decide +kernel), List.mem_of_getElem? (i := 990) (by decide +kernel)⟩
theorem lw_p95 : lw_okq (⟨"QuadricFlatsModel", "isForm", "()Z"⟩, 47) := ⟨⟨by decide +kernel, by decide +kernel⟩, List.mem_of_getElem? (i := 716) (by decide +kernel), List.mem_of_getElem? (i := 997) (by decide +kernel), List.mem_of_getElem? (i := 998) (by decide +kernel)⟩
def lw_privs_6 : List (MethodName × Nat) := [(⟨"QuadricFlatsModel", "valueOf", "([I)I"⟩, 47), (⟨"QuadricFlatsModel", "isSingular", "(I)Z"⟩, 47), (⟨"QuadricFlatsModel", "polarAt", "(II)I"⟩, 47), (⟨"QuadricFlatsModel", "polarOf", "([I[I)I"⟩, 47), (⟨"QuadricFlatsModel", "layLines", "()V"⟩, 47), (⟨"QuadricFlatsModel", "layLine", "(II)V"⟩, 47), (⟨"QuadricFlatsModel", "addTo", "(I)V"⟩, 47), (⟨"QuadricFlatsModel", "mix", "(IIII)I"⟩, 47), (⟨"QuadricFlatsModel", "pointOf", "([I)I"⟩, 47), (⟨"QuadricFlatsModel", "areOn", "()Z"⟩, 47), (⟨"QuadricFlatsModel", "layPlanes", "()V"⟩, 47), (⟨"QuadricFlatsModel", "layPlane", "(II)V"⟩, 47), (⟨"QuadricFlatsModel", "isIn", "(I)Z"⟩, 47), (⟨"QuadricFlatsModel", "widen", "(I)V"⟩, 47), (⟨"QuadricFlatsModel", "isOfLine", "(II)Z"⟩, 47), (⟨"QuadricFlatsModel", "isForm", "()Z"⟩, 47)]
theorem lw_r6 : ∀ q ∈ lw_privs_6, lw_okq q := List.forall_mem_cons.mpr ⟨lw_p80, List.forall_mem_cons.mpr ⟨lw_p81, List.forall_mem_cons.mpr ⟨lw_p82, List.forall_mem_cons.mpr ⟨lw_p83, List.forall_mem_cons.mpr ⟨lw_p84, List.forall_mem_cons.mpr ⟨lw_p85, List.forall_mem_cons.mpr ⟨lw_p86, List.forall_mem_cons.mpr ⟨lw_p87, List.forall_mem_cons.mpr ⟨lw_p88, List.forall_mem_cons.mpr ⟨lw_p89, List.forall_mem_cons.mpr ⟨lw_p90, List.forall_mem_cons.mpr ⟨lw_p91, List.forall_mem_cons.mpr ⟨lw_p92, List.forall_mem_cons.mpr ⟨lw_p93, List.forall_mem_cons.mpr ⟨lw_p94, List.forall_mem_cons.mpr ⟨lw_p95, fun _ h => absurd h List.not_mem_nil⟩⟩⟩⟩⟩⟩⟩⟩⟩⟩⟩⟩⟩⟩⟩⟩
theorem lw_p96 : lw_okq (⟨"QuadricFlatsModel", "aboutNow", "(I)I"⟩, 47) := ⟨⟨by decide +kernel, by decide +kernel⟩, List.mem_of_getElem? (i := 716) (by decide +kernel), List.mem_of_getElem? (i := 1001) (by decide +kernel), List.mem_of_getElem? (i := 1002) (by decide +kernel)⟩
theorem lw_p97 : lw_okq (⟨"QuadricFlatsModel", "kind", "()I"⟩, 47) := ⟨⟨by decide +kernel, by decide +kernel⟩, List.mem_of_getElem? (i := 716) (by decide +kernel), List.mem_of_getElem? (i := 1005) (by decide +kernel), List.mem_of_getElem? (i := 1006) (by decide +kernel)⟩
theorem lw_p98 : lw_okq (⟨"QuadricFlatsModel", "index", "()I"⟩, 47) := ⟨⟨by decide +kernel, by decide +kernel⟩, List.mem_of_getElem? (i := 716) (by decide +kernel), List.mem_of_getElem? (i := 1009) (by decide +kernel), List.mem_of_getElem? (i := 1010) (by decide +kernel)⟩
theorem lw_p99 : lw_okq (⟨"QuadricFlatsModel", "disc", "()I"⟩, 47) := ⟨⟨by decide +kernel, by decide +kernel⟩, List.mem_of_getElem? (i := 716) (by decide +kernel), List.mem_of_getElem? (i := 1013) (by decide +kernel), List.mem_of_getElem? (i := 1014) (by decide +kernel)⟩
theorem lw_p100 : lw_okq (⟨"QuadricFlatsModel", "layMatrix", "()V"⟩, 47) := ⟨⟨by decide +kernel, by decide +kernel⟩, List.mem_of_getElem? (i := 716) (by decide +kernel), List.mem_of_getElem? (i := 1017) (by decide +kernel), List.mem_of_getElem? (i := 1018) (by decide +kernel)⟩
theorem lw_p101 : lw_okq (⟨"QuadricFlatsModel", "determinant", "()I"⟩, 47) := ⟨⟨by decide +kernel, by decide +kernel⟩, List.mem_of_getElem? (i := 716) (by decide +kernel), List.mem_of_getElem? (i := 1021) (by decide +kernel), List.mem_of_getElem? (i := 1022) (by decide +kernel)⟩
theorem lw_p102 : lw_okq (⟨"QuadricFlatsModel", "swapLines", "(II)V"⟩, 47) := ⟨⟨by decide +kernel, by decide +kernel⟩, List.mem_of_getElem? (i := 716) (by decide +kernel), List.mem_of_getElem? (i := 1025) (by decide +kernel), List.mem_of_getElem? (i := 1026) (by decide +kernel)⟩
theorem lw_p103 : lw_okq (⟨"QuadricFlatsModel", "clearBelow", "(I)V"⟩, 47) := ⟨⟨by decide +kernel, by decide +kernel⟩, List.mem_of_getElem? (i := 716) (by decide +kernel), List.mem_of_getElem? (i := 1029) (by decide +kernel), List.mem_of_getElem? (i := 1030) (by decide +kernel)⟩
theorem lw_p104 : lw_okq (⟨"QuadricFlatsModel", "isSound", "()Z"⟩, 47) := ⟨⟨by decide +kernel, by decide +kernel⟩, List.mem_of_getElem? (i := 716) (by decide +kernel), List.mem_of_getElem? (i := 1033) (by decide +kernel), List.mem_of_getElem? (i := 1034) (by decide +kernel)⟩
theorem lw_p105 : lw_okq (⟨"QuadricFlatsModel", "isVariable", "(I)Z"⟩, 47) := ⟨⟨by decide +kernel, by decide +kernel⟩, List.mem_of_getElem? (i := 716) (by decide +kernel), List.mem_of_getElem? (i := 1041) (by decide +kernel), List.mem_of_getElem? (i := 1042) (by decide +kernel)⟩
theorem lw_p106 : lw_okq (⟨"QuadricFlatsModel", "isPoint", "(I)Z"⟩, 47) := ⟨⟨by decide +kernel, by decide +kernel⟩, List.mem_of_getElem? (i := 716) (by decide +kernel), List.mem_of_getElem? (i := 1052) (by decide +kernel), List.mem_of_getElem? (i := 1053) (by decide +kernel)⟩
theorem lw_p107 : lw_okq (⟨"QuadricFlatsModel", "isJoined", "(II)Z"⟩, 47) := ⟨⟨by decide +kernel, by decide +kernel⟩, List.mem_of_getElem? (i := 716) (by decide +kernel), List.mem_of_getElem? (i := 1068) (by decide +kernel), List.mem_of_getElem? (i := 1069) (by decide +kernel)⟩
theorem lw_p108 : lw_okq (⟨"QuadricFlatsModel", "sectionOn", "(I)I"⟩, 47) := ⟨⟨by decide +kernel, by decide +kernel⟩, List.mem_of_getElem? (i := 716) (by decide +kernel), List.mem_of_getElem? (i := 1076) (by decide +kernel), List.mem_of_getElem? (i := 1077) (by decide +kernel)⟩
theorem lw_p109 : lw_okq (⟨"QuadricFlatsModel", "isInSection", "(II)Z"⟩, 47) := ⟨⟨by decide +kernel, by decide +kernel⟩, List.mem_of_getElem? (i := 716) (by decide +kernel), List.mem_of_getElem? (i := 1080) (by decide +kernel), List.mem_of_getElem? (i := 1081) (by decide +kernel)⟩
theorem lw_p110 : lw_okq (⟨"QuadricFlatsModel", "touches", "(I)I"⟩, 47) := ⟨⟨by decide +kernel, by decide +kernel⟩, List.mem_of_getElem? (i := 716) (by decide +kernel), List.mem_of_getElem? (i := 1084) (by decide +kernel), List.mem_of_getElem? (i := 1085) (by decide +kernel)⟩
theorem lw_p111 : lw_okq (⟨"QuadricFlatsModel", "isTouched", "(II)Z"⟩, 47) := ⟨⟨by decide +kernel, by decide +kernel⟩, List.mem_of_getElem? (i := 716) (by decide +kernel), List.mem_of_getElem? (i := 1088) (by decide +kernel), List.mem_of_getElem? (i := 1089) (by decide +kernel)⟩
def lw_privs_7 : List (MethodName × Nat) := [(⟨"QuadricFlatsModel", "aboutNow", "(I)I"⟩, 47), (⟨"QuadricFlatsModel", "kind", "()I"⟩, 47), (⟨"QuadricFlatsModel", "index", "()I"⟩, 47), (⟨"QuadricFlatsModel", "disc", "()I"⟩, 47), (⟨"QuadricFlatsModel", "layMatrix", "()V"⟩, 47), (⟨"QuadricFlatsModel", "determinant", "()I"⟩, 47), (⟨"QuadricFlatsModel", "swapLines", "(II)V"⟩, 47), (⟨"QuadricFlatsModel", "clearBelow", "(I)V"⟩, 47), (⟨"QuadricFlatsModel", "isSound", "()Z"⟩, 47), (⟨"QuadricFlatsModel", "isVariable", "(I)Z"⟩, 47), (⟨"QuadricFlatsModel", "isPoint", "(I)Z"⟩, 47), (⟨"QuadricFlatsModel", "isJoined", "(II)Z"⟩, 47), (⟨"QuadricFlatsModel", "sectionOn", "(I)I"⟩, 47), (⟨"QuadricFlatsModel", "isInSection", "(II)Z"⟩, 47), (⟨"QuadricFlatsModel", "touches", "(I)I"⟩, 47), (⟨"QuadricFlatsModel", "isTouched", "(II)Z"⟩, 47)]
theorem lw_r7 : ∀ q ∈ lw_privs_7, lw_okq q := List.forall_mem_cons.mpr ⟨lw_p96, List.forall_mem_cons.mpr ⟨lw_p97, List.forall_mem_cons.mpr ⟨lw_p98, List.forall_mem_cons.mpr ⟨lw_p99, List.forall_mem_cons.mpr ⟨lw_p100, List.forall_mem_cons.mpr ⟨lw_p101, List.forall_mem_cons.mpr ⟨lw_p102, List.forall_mem_cons.mpr ⟨lw_p103, List.forall_mem_cons.mpr ⟨lw_p104, List.forall_mem_cons.mpr ⟨lw_p105, List.forall_mem_cons.mpr ⟨lw_p106, List.forall_mem_cons.mpr ⟨lw_p107, List.forall_mem_cons.mpr ⟨lw_p108, List.forall_mem_cons.mpr ⟨lw_p109, List.forall_mem_cons.mpr ⟨lw_p110, List.forall_mem_cons.mpr ⟨lw_p111, fun _ h => absurd h List.not_mem_nil⟩⟩⟩⟩⟩⟩⟩⟩⟩⟩⟩⟩⟩⟩⟩⟩
theorem lw_p112 : lw_okq (⟨"QuadricFlatsModel", "flatsOf", "(I)I"⟩, 47) := ⟨⟨by decide +kernel, by decide +kernel⟩, List.mem_of_getElem? (i := 716) (by decide +kernel), List.mem_of_getElem? (i := 1096) (by decide +kernel), List.mem_of_getElem? (i := 1097) (by decide +kernel)⟩
theorem lw_p113 : lw_okq (⟨"QuadricFlatsModel", "sizeOf", "(I)I"⟩, 47) := ⟨⟨by decide +kernel, by decide +kernel⟩, List.mem_of_getElem? (i := 716) (by decide +kernel), List.mem_of_getElem? (i := 1104) (by decide +kernel), List.mem_of_getElem? (i := 1105) (by decide +kernel)⟩
theorem lw_p114 : lw_okq (⟨"QuadricFlatsModel", "pointIn", "(III)I"⟩, 47) := ⟨⟨by decide +kernel, by decide +kernel⟩, List.mem_of_getElem? (i := 716) (by decide +kernel), List.mem_of_getElem? (i := 1108) (by decide +kernel), List.mem_of_getElem? (i := 1109) (by decide +kernel)⟩
theorem lw_p115 : lw_okq (⟨"QuadricFlatsModel", "onAt", "(I)I"⟩, 47) := ⟨⟨by decide +kernel, by decide +kernel⟩, List.mem_of_getElem? (i := 716) (by decide +kernel), List.mem_of_getElem? (i := 1112) (by decide +kernel), List.mem_of_getElem? (i := 1113) (by decide +kernel)⟩
theorem lw_p116 : lw_okq (⟨"QuadricFlatsModel", "isOnPoint", "(I)Z"⟩, 47) := ⟨⟨by decide +kernel, by decide +kernel⟩, List.mem_of_getElem? (i := 716) (by decide +kernel), List.mem_of_getElem? (i := 1120) (by decide +kernel), List.mem_of_getElem? (i := 1121) (by decide +kernel)⟩
theorem lw_p117 : lw_okq (⟨"QuadricFlatsModel", "isGreatest", "(I)Z"⟩, 47) := ⟨⟨by decide +kernel, by decide +kernel⟩, List.mem_of_getElem? (i := 716) (by decide +kernel), List.mem_of_getElem? (i := 1124) (by decide +kernel), List.mem_of_getElem? (i := 1125) (by decide +kernel)⟩
theorem lw_p118 : lw_okq (⟨"QuadricFlatsModel", "greatestMany", "()I"⟩, 47) := ⟨⟨by decide +kernel, by decide +kernel⟩, List.mem_of_getElem? (i := 716) (by decide +kernel), List.mem_of_getElem? (i := 1128) (by decide +kernel), List.mem_of_getElem? (i := 1129) (by decide +kernel)⟩
theorem lw_p119 : lw_okq (⟨"QuadricFlatsModel", "nearNow", "(III)I"⟩, 47) := ⟨⟨by decide +kernel, by decide +kernel⟩, List.mem_of_getElem? (i := 716) (by decide +kernel), List.mem_of_getElem? (i := 1132) (by decide +kernel), List.mem_of_getElem? (i := 1133) (by decide +kernel)⟩
theorem lw_p120 : lw_okq (⟨"QuadricFlatsModel", "choose", "(II)I"⟩, 47) := ⟨⟨by decide +kernel, by decide +kernel⟩, List.mem_of_getElem? (i := 716) (by decide +kernel), List.mem_of_getElem? (i := 1140) (by decide +kernel), List.mem_of_getElem? (i := 1141) (by decide +kernel)⟩
theorem lw_p121 : lw_okq (⟨"QuadricFlatsModel", "reached", "(I)J"⟩, 47) := ⟨⟨by decide +kernel, by decide +kernel⟩, List.mem_of_getElem? (i := 716) (by decide +kernel), List.mem_of_getElem? (i := 1144) (by decide +kernel), List.mem_of_getElem? (i := 1145) (by decide +kernel)⟩
theorem lw_p122 : lw_okq (⟨"QuadricFlatsModel", "reach", "(II)J"⟩, 47) := ⟨⟨by decide +kernel, by decide +kernel⟩, List.mem_of_getElem? (i := 716) (by decide +kernel), List.mem_of_getElem? (i := 1148) (by decide +kernel), List.mem_of_getElem? (i := 1149) (by decide +kernel)⟩
theorem lw_p123 : lw_okq (⟨"QuadricFlatsModel", "has", "(II)Z"⟩, 47) := ⟨⟨by decide +kernel, by decide +kernel⟩, List.mem_of_getElem? (i := 716) (by decide +kernel), List.mem_of_getElem? (i := 1152) (by decide +kernel), List.mem_of_getElem? (i := 1153) (by decide +kernel)⟩
theorem lw_p124 : lw_okq (⟨"QuadricFlatsModel", "leftNow", "(I)I"⟩, 47) := ⟨⟨by decide +kernel, by decide +kernel⟩, List.mem_of_getElem? (i := 716) (by decide +kernel), List.mem_of_getElem? (i := 1175) (by decide +kernel), List.mem_of_getElem? (i := 1176) (by decide +kernel)⟩
theorem lw_p125 : lw_okq (⟨"QuadricFlatsModel", "wanted", "(I)I"⟩, 47) := ⟨⟨by decide +kernel, by decide +kernel⟩, List.mem_of_getElem? (i := 716) (by decide +kernel), List.mem_of_getElem? (i := 1179) (by decide +kernel), List.mem_of_getElem? (i := 1180) (by decide +kernel)⟩
theorem lw_p126 : lw_okq (⟨"QuadricFlatsModel", "finishNow", "(I)I"⟩, 47) := ⟨⟨by decide +kernel, by decide +kernel⟩, List.mem_of_getElem? (i := 716) (by decide +kernel), List.mem_of_getElem? (i := 1190) (by decide +kernel), List.mem_of_getElem? (i := 1191) (by decide +kernel)⟩
theorem lw_p127 : lw_okq (⟨"QuadricFlatsModel", "layCan", "(I)V"⟩, 47) := ⟨⟨by decide +kernel, by decide +kernel⟩, List.mem_of_getElem? (i := 716) (by decide +kernel), List.mem_of_getElem? (i := 1194) (by decide +kernel), List.mem_of_getElem? (i := 1195) (by decide +kernel)⟩
def lw_privs_8 : List (MethodName × Nat) := [(⟨"QuadricFlatsModel", "flatsOf", "(I)I"⟩, 47), (⟨"QuadricFlatsModel", "sizeOf", "(I)I"⟩, 47), (⟨"QuadricFlatsModel", "pointIn", "(III)I"⟩, 47), (⟨"QuadricFlatsModel", "onAt", "(I)I"⟩, 47), (⟨"QuadricFlatsModel", "isOnPoint", "(I)Z"⟩, 47), (⟨"QuadricFlatsModel", "isGreatest", "(I)Z"⟩, 47), (⟨"QuadricFlatsModel", "greatestMany", "()I"⟩, 47), (⟨"QuadricFlatsModel", "nearNow", "(III)I"⟩, 47), (⟨"QuadricFlatsModel", "choose", "(II)I"⟩, 47), (⟨"QuadricFlatsModel", "reached", "(I)J"⟩, 47), (⟨"QuadricFlatsModel", "reach", "(II)J"⟩, 47), (⟨"QuadricFlatsModel", "has", "(II)Z"⟩, 47), (⟨"QuadricFlatsModel", "leftNow", "(I)I"⟩, 47), (⟨"QuadricFlatsModel", "wanted", "(I)I"⟩, 47), (⟨"QuadricFlatsModel", "finishNow", "(I)I"⟩, 47), (⟨"QuadricFlatsModel", "layCan", "(I)V"⟩, 47)]
theorem lw_r8 : ∀ q ∈ lw_privs_8, lw_okq q := List.forall_mem_cons.mpr ⟨lw_p112, List.forall_mem_cons.mpr ⟨lw_p113, List.forall_mem_cons.mpr ⟨lw_p114, List.forall_mem_cons.mpr ⟨lw_p115, List.forall_mem_cons.mpr ⟨lw_p116, List.forall_mem_cons.mpr ⟨lw_p117, List.forall_mem_cons.mpr ⟨lw_p118, List.forall_mem_cons.mpr ⟨lw_p119, List.forall_mem_cons.mpr ⟨lw_p120, List.forall_mem_cons.mpr ⟨lw_p121, List.forall_mem_cons.mpr ⟨lw_p122, List.forall_mem_cons.mpr ⟨lw_p123, List.forall_mem_cons.mpr ⟨lw_p124, List.forall_mem_cons.mpr ⟨lw_p125, List.forall_mem_cons.mpr ⟨lw_p126, List.forall_mem_cons.mpr ⟨lw_p127, fun _ h => absurd h List.not_mem_nil⟩⟩⟩⟩⟩⟩⟩⟩⟩⟩⟩⟩⟩⟩⟩⟩
theorem lw_p128 : lw_okq (⟨"QuadricFlatsModel", "waysFrom", "(JII)I"⟩, 47) := ⟨⟨by decide +kernel, by decide +kernel⟩, List.mem_of_getElem? (i := 716) (by decide +kernel), List.mem_of_getElem? (i := 1198) (by decide +kernel), List.mem_of_getElem? (i := 1199) (by decide +kernel)⟩
theorem lw_p129 : lw_okq (⟨"QuadricFlatsModel", "nextCan", "(IJ)I"⟩, 47) := ⟨⟨by decide +kernel, by decide +kernel⟩, List.mem_of_getElem? (i := 716) (by decide +kernel), List.mem_of_getElem? (i := 1202) (by decide +kernel), List.mem_of_getElem? (i := 1203) (by decide +kernel)⟩
theorem lw_p130 : lw_okq (⟨"QuadricFlatsModel", "beginImages", "()V"⟩, 47) := ⟨⟨by decide +kernel, by decide +kernel⟩, List.mem_of_getElem? (i := 716) (by decide +kernel), List.mem_of_getElem? (i := 1222) (by decide +kernel), List.mem_of_getElem? (i := 1223) (by decide +kernel)⟩
theorem lw_p131 : lw_okq (⟨"QuadricFlatsModel", "change", "()I"⟩, 47) := ⟨⟨by decide +kernel, by decide +kernel⟩, List.mem_of_getElem? (i := 716) (by decide +kernel), List.mem_of_getElem? (i := 1226) (by decide +kernel), List.mem_of_getElem? (i := 1227) (by decide +kernel)⟩
theorem lw_p132 : lw_okq (⟨"QuadricFlatsModel", "takeImage", "(I[I)V"⟩, 47) := ⟨⟨by decide +kernel, by decide +kernel⟩, List.mem_of_getElem? (i := 716) (by decide +kernel), List.mem_of_getElem? (i := 1230) (by decide +kernel), List.mem_of_getElem? (i := 1231) (by decide +kernel)⟩
theorem lw_p133 : lw_okq (⟨"QuadricFlatsModel", "drawnNow", "(III)I"⟩, 47) := ⟨⟨by decide +kernel, by decide +kernel⟩, List.mem_of_getElem? (i := 716) (by decide +kernel), List.mem_of_getElem? (i := 1262) (by decide +kernel), List.mem_of_getElem? (i := 1263) (by decide +kernel)⟩
theorem lw_p134 : lw_okq (⟨"QuadricFlatsModel", "drawOf", "(I)I"⟩, 47) := ⟨⟨by decide +kernel, by decide +kernel⟩, List.mem_of_getElem? (i := 716) (by decide +kernel), List.mem_of_getElem? (i := 1266) (by decide +kernel), List.mem_of_getElem? (i := 1267) (by decide +kernel)⟩
theorem lw_p135 : lw_okq (⟨"QuadricFlatsModel", "howMany", "(I)I"⟩, 47) := ⟨⟨by decide +kernel, by decide +kernel⟩, List.mem_of_getElem? (i := 716) (by decide +kernel), List.mem_of_getElem? (i := 1278) (by decide +kernel), List.mem_of_getElem? (i := 1279) (by decide +kernel)⟩
theorem lw_p136 : lw_okq (⟨"QuadricFlatsModel", "mixForm", "()V"⟩, 47) := ⟨⟨by decide +kernel, by decide +kernel⟩, List.mem_of_getElem? (i := 716) (by decide +kernel), List.mem_of_getElem? (i := 1287) (by decide +kernel), List.mem_of_getElem? (i := 1288) (by decide +kernel)⟩
theorem lw_p137 : lw_okq (⟨"QuadricFlatsModel", "mixIn", "(J)V"⟩, 47) := ⟨⟨by decide +kernel, by decide +kernel⟩, List.mem_of_getElem? (i := 716) (by decide +kernel), List.mem_of_getElem? (i := 1291) (by decide +kernel), List.mem_of_getElem? (i := 1292) (by decide +kernel)⟩
theorem lw_p138 : lw_okq (⟨"QuadricFlatsModel", "mixFlats", "()V"⟩, 47) := ⟨⟨by decide +kernel, by decide +kernel⟩, List.mem_of_getElem? (i := 716) (by decide +kernel), List.mem_of_getElem? (i := 1296) (by decide +kernel), List.mem_of_getElem? (i := 1297) (by decide +kernel)⟩
def lw_privs_9 : List (MethodName × Nat) := [(⟨"QuadricFlatsModel", "waysFrom", "(JII)I"⟩, 47), (⟨"QuadricFlatsModel", "nextCan", "(IJ)I"⟩, 47), (⟨"QuadricFlatsModel", "beginImages", "()V"⟩, 47), (⟨"QuadricFlatsModel", "change", "()I"⟩, 47), (⟨"QuadricFlatsModel", "takeImage", "(I[I)V"⟩, 47), (⟨"QuadricFlatsModel", "drawnNow", "(III)I"⟩, 47), (⟨"QuadricFlatsModel", "drawOf", "(I)I"⟩, 47), (⟨"QuadricFlatsModel", "howMany", "(I)I"⟩, 47), (⟨"QuadricFlatsModel", "mixForm", "()V"⟩, 47), (⟨"QuadricFlatsModel", "mixIn", "(J)V"⟩, 47), (⟨"QuadricFlatsModel", "mixFlats", "()V"⟩, 47)]
theorem lw_r9 : ∀ q ∈ lw_privs_9, lw_okq q := List.forall_mem_cons.mpr ⟨lw_p128, List.forall_mem_cons.mpr ⟨lw_p129, List.forall_mem_cons.mpr ⟨lw_p130, List.forall_mem_cons.mpr ⟨lw_p131, List.forall_mem_cons.mpr ⟨lw_p132, List.forall_mem_cons.mpr ⟨lw_p133, List.forall_mem_cons.mpr ⟨lw_p134, List.forall_mem_cons.mpr ⟨lw_p135, List.forall_mem_cons.mpr ⟨lw_p136, List.forall_mem_cons.mpr ⟨lw_p137, List.forall_mem_cons.mpr ⟨lw_p138, fun _ h => absurd h List.not_mem_nil⟩⟩⟩⟩⟩⟩⟩⟩⟩⟩⟩
def lw_privs : List (MethodName × Nat) := lw_privs_1 ++ (lw_privs_2 ++ (lw_privs_3 ++ (lw_privs_4 ++ (lw_privs_5 ++ (lw_privs_6 ++ (lw_privs_7 ++ (lw_privs_8 ++ (lw_privs_9))))))))
def lw_tbl : List Cond := k2_sels lw_privs ++ tables_1
theorem lw_privs_ok : ∀ q ∈ lw_privs, lw_okq q := by
  show ∀ q ∈ lw_privs_1 ++ (lw_privs_2 ++ (lw_privs_3 ++ (lw_privs_4 ++ (lw_privs_5 ++ (lw_privs_6 ++ (lw_privs_7 ++ (lw_privs_8 ++ (lw_privs_9)))))))), lw_okq q
  exact List.forall_mem_append.mpr ⟨lw_r1, List.forall_mem_append.mpr ⟨lw_r2, List.forall_mem_append.mpr ⟨lw_r3, List.forall_mem_append.mpr ⟨lw_r4, List.forall_mem_append.mpr ⟨lw_r5, List.forall_mem_append.mpr ⟨lw_r6, List.forall_mem_append.mpr ⟨lw_r7, List.forall_mem_append.mpr ⟨lw_r8, lw_r9⟩⟩⟩⟩⟩⟩⟩⟩
end
section
/-! the classes, the words, what the pools say (printed by wip/whole/gen_tables.py) -/
def zt_R0 : String := "QuadricFlats$Flats"
def zt_T0 : u_T := fun k => match k with
  | 0 => ("QuadricFlats$Flats", "links", "[J", true)
  | 1 => ("QuadricFlats$Flats", "lines", "[J", true)
  | 2 => ("QuadricFlats$Flats", "planes", "[J", true)
  | 3 => ("QuadricFlats$Flats", "pointTotal", "I", false)
  | 4 => ("QuadricFlats$Flats", "lineTotal", "I", false)
  | _ => ("QuadricFlats$Flats", "planeTotal", "I", false)
def zt_y0 : Nat → FieldType := fun k => match k with
  | 0 => .array .long
  | 1 => .array .long
  | 2 => .array .long
  | 3 => .int
  | 4 => .int
  | _ => .int
theorem zt_n0 : ∀ a, a < 6 → ∀ b, b < 6 → a ≠ b → (zt_T0 a).2.1 ≠ (zt_T0 b).2.1 := by decide +kernel
theorem zt_yo0 : ∀ k, k < 6 → parseFieldDescriptor (zt_T0 k).2.2.1 = some (zt_y0 k) := by decide +kernel
def zt_R1 : String := "QuadricFlats$Form"
def zt_T1 : u_T := fun k => match k with
  | 0 => ("QuadricFlats$Form", "prime", "I", false)
  | 1 => ("QuadricFlats$Form", "variables", "I", false)
  | 2 => ("QuadricFlats$Form", "cells", "[I", true)
  | _ => ("QuadricFlats$Form", "matrix", "[I", true)
def zt_y1 : Nat → FieldType := fun k => match k with
  | 0 => .int
  | 1 => .int
  | 2 => .array .int
  | _ => .array .int
theorem zt_n1 : ∀ a, a < 4 → ∀ b, b < 4 → a ≠ b → (zt_T1 a).2.1 ≠ (zt_T1 b).2.1 := by decide +kernel
theorem zt_yo1 : ∀ k, k < 4 → parseFieldDescriptor (zt_T1 k).2.2.1 = some (zt_y1 k) := by decide +kernel
def zt_R2 : String := "QuadricFlats$Page"
def zt_T2 : u_T := fun k => match k with
  | 0 => ("QuadricFlats$Page", "codes", "[I", true)
  | 1 => ("QuadricFlats$Page", "length", "I", false)
  | 2 => ("QuadricFlats$Page", "prime", "I", false)
  | 3 => ("QuadricFlats$Page", "width", "I", false)
  | 4 => ("QuadricFlats$Page", "row", "I", false)
  | _ => ("QuadricFlats$Page", "column", "I", false)
def zt_y2 : Nat → FieldType := fun k => match k with
  | 0 => .array .int
  | 1 => .int
  | 2 => .int
  | 3 => .int
  | 4 => .int
  | _ => .int
theorem zt_n2 : ∀ a, a < 6 → ∀ b, b < 6 → a ≠ b → (zt_T2 a).2.1 ≠ (zt_T2 b).2.1 := by decide +kernel
theorem zt_yo2 : ∀ k, k < 6 → parseFieldDescriptor (zt_T2 k).2.2.1 = some (zt_y2 k) := by decide +kernel
def zt_R3 : String := "QuadricFlats$Quadric"
def zt_T3 : u_T := fun k => match k with
  | 0 => ("QuadricFlats$Quadric", "prime", "I", false)
  | 1 => ("QuadricFlats$Quadric", "variables", "I", false)
  | 2 => ("QuadricFlats$Quadric", "total", "I", false)
  | 3 => ("QuadricFlats$Quadric", "numbers", "[I", true)
  | 4 => ("QuadricFlats$Quadric", "normals", "[I", true)
  | 5 => ("QuadricFlats$Quadric", "values", "[I", true)
  | 6 => ("QuadricFlats$Quadric", "members", "[I", true)
  | 7 => ("QuadricFlats$Quadric", "ranks", "[I", true)
  | 8 => ("QuadricFlats$Quadric", "memberTotal", "I", false)
  | 9 => ("QuadricFlats$Quadric", "singularTotal", "I", false)
  | _ => ("QuadricFlats$Quadric", "vector", "[I", true)
def zt_y3 : Nat → FieldType := fun k => match k with
  | 0 => .int
  | 1 => .int
  | 2 => .int
  | 3 => .array .int
  | 4 => .array .int
  | 5 => .array .int
  | 6 => .array .int
  | 7 => .array .int
  | 8 => .int
  | 9 => .int
  | _ => .array .int
theorem zt_n3 : ∀ a, a < 11 → ∀ b, b < 11 → a ≠ b → (zt_T3 a).2.1 ≠ (zt_T3 b).2.1 := by decide +kernel
theorem zt_yo3 : ∀ k, k < 11 → parseFieldDescriptor (zt_T3 k).2.2.1 = some (zt_y3 k) := by decide +kernel
def zt_R4 : String := "QuadricFlats$Search"
def zt_T4 : u_T := fun k => match k with
  | 0 => ("QuadricFlats$Search", "side", "LQuadricFlats$Side;", true)
  | 1 => ("QuadricFlats$Search", "other", "LQuadricFlats$Side;", true)
  | 2 => ("QuadricFlats$Search", "found", "I", false)
  | _ => ("QuadricFlats$Search", "first", "J", false)
def zt_y4 : Nat → FieldType := fun k => match k with
  | 0 => .object "QuadricFlats$Side"
  | 1 => .object "QuadricFlats$Side"
  | 2 => .int
  | _ => .long
theorem zt_n4 : ∀ a, a < 4 → ∀ b, b < 4 → a ≠ b → (zt_T4 a).2.1 ≠ (zt_T4 b).2.1 := by decide +kernel
theorem zt_yo4 : ∀ k, k < 4 → parseFieldDescriptor (zt_T4 k).2.2.1 = some (zt_y4 k) := by decide +kernel
def zt_R5 : String := "QuadricFlats$Side"
def zt_T5 : u_T := fun k => match k with
  | 0 => ("QuadricFlats$Side", "size", "I", false)
  | 1 => ("QuadricFlats$Side", "covers", "[J", true)
  | 2 => ("QuadricFlats$Side", "clashes", "[J", true)
  | 3 => ("QuadricFlats$Side", "entries", "[I", true)
  | _ => ("QuadricFlats$Side", "length", "I", false)
def zt_y5 : Nat → FieldType := fun k => match k with
  | 0 => .int
  | 1 => .array .long
  | 2 => .array .long
  | 3 => .array .int
  | _ => .int
theorem zt_n5 : ∀ a, a < 5 → ∀ b, b < 5 → a ≠ b → (zt_T5 a).2.1 ≠ (zt_T5 b).2.1 := by decide +kernel
theorem zt_yo5 : ∀ k, k < 5 → parseFieldDescriptor (zt_T5 k).2.2.1 = some (zt_y5 k) := by decide +kernel
def zt_R6 : String := "QuadricFlats"
def zt_T6 : u_T := fun k => match k with
  | 0 => ("QuadricFlats", "page", "LQuadricFlats$Page;", true)
  | 1 => ("QuadricFlats", "current", "LQuadricFlats$Form;", true)
  | 2 => ("QuadricFlats", "kept", "LQuadricFlats$Form;", true)
  | 3 => ("QuadricFlats", "quadric", "LQuadricFlats$Quadric;", true)
  | 4 => ("QuadricFlats", "known", "LQuadricFlats$Flats;", true)
  | 5 => ("QuadricFlats", "picked", "LQuadricFlats$Side;", true)
  | 6 => ("QuadricFlats", "gathered", "LQuadricFlats$Side;", true)
  | 7 => ("QuadricFlats", "ovoids", "LQuadricFlats$Search;", true)
  | 8 => ("QuadricFlats", "spreads", "LQuadricFlats$Search;", true)
  | 9 => ("QuadricFlats", "keptType", "I", false)
  | 10 => ("QuadricFlats", "formsRead", "I", false)
  | 11 => ("QuadricFlats", "finishCalls", "I", false)
  | 12 => ("QuadricFlats", "waysCalls", "I", false)
  | 13 => ("QuadricFlats", "surveyed", "Z", false)
  | _ => ("QuadricFlats", "built", "Z", false)
def zt_y6 : Nat → FieldType := fun k => match k with
  | 0 => .object "QuadricFlats$Page"
  | 1 => .object "QuadricFlats$Form"
  | 2 => .object "QuadricFlats$Form"
  | 3 => .object "QuadricFlats$Quadric"
  | 4 => .object "QuadricFlats$Flats"
  | 5 => .object "QuadricFlats$Side"
  | 6 => .object "QuadricFlats$Side"
  | 7 => .object "QuadricFlats$Search"
  | 8 => .object "QuadricFlats$Search"
  | 9 => .int
  | 10 => .int
  | 11 => .int
  | 12 => .int
  | 13 => .boolean
  | _ => .boolean
theorem zt_n6 : ∀ a, a < 15 → ∀ b, b < 15 → a ≠ b → (zt_T6 a).2.1 ≠ (zt_T6 b).2.1 := by decide +kernel
theorem zt_yo6 : ∀ k, k < 15 → parseFieldDescriptor (zt_T6 k).2.2.1 = some (zt_y6 k) := by decide +kernel
def zt_R7 : String := "QuadricFlatsModel"
def zt_T7 : u_T := fun k => match k with
  | 0 => ("QuadricFlatsModel", "prime", "I", false)
  | 1 => ("QuadricFlatsModel", "many", "I", false)
  | 2 => ("QuadricFlatsModel", "table", "[I", true)
  | 3 => ("QuadricFlatsModel", "forms", "I", false)
  | 4 => ("QuadricFlatsModel", "pageLength", "I", false)
  | 5 => ("QuadricFlatsModel", "page", "[I", true)
  | 6 => ("QuadricFlatsModel", "points", "I", false)
  | 7 => ("QuadricFlatsModel", "rows", "[I", true)
  | 8 => ("QuadricFlatsModel", "numbered", "[I", true)
  | 9 => ("QuadricFlatsModel", "isOn", "[Z", true)
  | 10 => ("QuadricFlatsModel", "onMany", "I", false)
  | 11 => ("QuadricFlatsModel", "singular", "I", false)
  | 12 => ("QuadricFlatsModel", "lines", "I", false)
  | 13 => ("QuadricFlatsModel", "line", "[I", true)
  | 14 => ("QuadricFlatsModel", "planes", "I", false)
  | 15 => ("QuadricFlatsModel", "plane", "[I", true)
  | 16 => ("QuadricFlatsModel", "newPrime", "I", false)
  | 17 => ("QuadricFlatsModel", "newMany", "I", false)
  | 18 => ("QuadricFlatsModel", "newRow", "I", false)
  | 19 => ("QuadricFlatsModel", "newDigits", "I", false)
  | 20 => ("QuadricFlatsModel", "newTable", "[I", true)
  | 21 => ("QuadricFlatsModel", "at", "[I", true)
  | 22 => ("QuadricFlatsModel", "other", "[I", true)
  | 23 => ("QuadricFlatsModel", "sums", "[I", true)
  | 24 => ("QuadricFlatsModel", "mixed", "[I", true)
  | 25 => ("QuadricFlatsModel", "flatMany", "I", false)
  | 26 => ("QuadricFlatsModel", "flatAt", "[I", true)
  | 27 => ("QuadricFlatsModel", "base", "[I", true)
  | 28 => ("QuadricFlatsModel", "matrix", "[I", true)
  | 29 => ("QuadricFlatsModel", "chosenMany", "[I", true)
  | 30 => ("QuadricFlatsModel", "chosenAt", "[I", true)
  | 31 => ("QuadricFlatsModel", "canMany", "I", false)
  | 32 => ("QuadricFlatsModel", "can", "[J", true)
  | 33 => ("QuadricFlatsModel", "canNumber", "[I", true)
  | 34 => ("QuadricFlatsModel", "tried", "[I", true)
  | 35 => ("QuadricFlatsModel", "covered", "[J", true)
  | 36 => ("QuadricFlatsModel", "finished", "I", false)
  | 37 => ("QuadricFlatsModel", "counted", "I", false)
  | 38 => ("QuadricFlatsModel", "images", "[I", true)
  | 39 => ("QuadricFlatsModel", "made", "[I", true)
  | 40 => ("QuadricFlatsModel", "keptPrime", "I", false)
  | 41 => ("QuadricFlatsModel", "keptMany", "I", false)
  | 42 => ("QuadricFlatsModel", "keptKind", "I", false)
  | 43 => ("QuadricFlatsModel", "keptDisc", "I", false)
  | 44 => ("QuadricFlatsModel", "keptTable", "[I", true)
  | 45 => ("QuadricFlatsModel", "seedNow", "J", false)
  | _ => ("QuadricFlatsModel", "h", "J", false)
def zt_y7 : Nat → FieldType := fun k => match k with
  | 0 => .int
  | 1 => .int
  | 2 => .array .int
  | 3 => .int
  | 4 => .int
  | 5 => .array .int
  | 6 => .int
  | 7 => .array .int
  | 8 => .array .int
  | 9 => .array .boolean
  | 10 => .int
  | 11 => .int
  | 12 => .int
  | 13 => .array .int
  | 14 => .int
  | 15 => .array .int
  | 16 => .int
  | 17 => .int
  | 18 => .int
  | 19 => .int
  | 20 => .array .int
  | 21 => .array .int
  | 22 => .array .int
  | 23 => .array .int
  | 24 => .array .int
  | 25 => .int
  | 26 => .array .int
  | 27 => .array .int
  | 28 => .array .int
  | 29 => .array .int
  | 30 => .array .int
  | 31 => .int
  | 32 => .array .long
  | 33 => .array .int
  | 34 => .array .int
  | 35 => .array .long
  | 36 => .int
  | 37 => .int
  | 38 => .array .int
  | 39 => .array .int
  | 40 => .int
  | 41 => .int
  | 42 => .int
  | 43 => .int
  | 44 => .array .int
  | 45 => .long
  | _ => .long
theorem zt_n7 : ∀ a, a < 47 → ∀ b, b < 47 → a ≠ b → (zt_T7 a).2.1 ≠ (zt_T7 b).2.1 := by decide +kernel
theorem zt_yo7 : ∀ k, k < 47 → parseFieldDescriptor (zt_T7 k).2.2.1 = some (zt_y7 k) := by decide +kernel
abbrev zt_cl : List vw_C := [(zt_R0, zt_T0, 6), (zt_R1, zt_T1, 4), (zt_R2, zt_T2, 6), (zt_R3, zt_T3, 11), (zt_R4, zt_T4, 4), (zt_R5, zt_T5, 5), (zt_R6, zt_T6, 15), (zt_R7, zt_T7, 47)]
def zt_gw : List Jvm.Cond := lw_tbl.filter goodWord
def zt_ne : Jvm.Cond → Bool
  | .fieldLinkNest _ _ _ _ _ _ => true
  | .methodLinkNest _ _ _ _ => true
  | _ => false
def zt_nw : List Jvm.Cond := lw_tbl.filter zt_ne
theorem zt_good : zm_goodL zt_gw := fun x hx => good_of_word (List.mem_filter.mp hx).2
theorem zt_nest : ∀ x ∈ zt_nw, zm_nest x := by
  intro x hx
  have h := (List.mem_filter.mp hx).2
  cases x with
  | fieldLinkNest a i b n d g => exact Or.inl ⟨a, i, b, n, d, g, rfl⟩
  | methodLinkNest a i y g => exact Or.inr ⟨a, i, y, g, rfl⟩
  | _ => cases h
theorem zt_in (i : Nat) {x : Jvm.Cond} (h : lw_tbl[i]? = some x) (hg : goodWord x = true) : x ∈ zt_gw := List.mem_filter.mpr ⟨List.mem_of_getElem? h, hg⟩
theorem zt_inN (i : Nat) {x : Jvm.Cond} (h : lw_tbl[i]? = some x) (hg : zt_ne x = true) : x ∈ zt_nw := List.mem_filter.mpr ⟨List.mem_of_getElem? h, hg⟩
theorem zt_lay {C : String} {T : u_T} {N : Nat} (ps : List Nat) (h : (List.range N).all (fun k => decide (lw_tbl[ps.getD k 0]? = some (u_lay C T k)) && goodWord (u_lay C T k)) = true) : ∀ x ∈ u_ws C T N, x ∈ zt_gw := by
  intro x hx
  obtain ⟨k, hk, rfl⟩ := List.mem_map.mp hx
  have h1 := List.all_eq_true.mp h k hk
  simp only [Bool.and_eq_true, decide_eq_true_eq] at h1
  exact zt_in _ h1.1 h1.2
theorem zt_l0 : ∀ x ∈ u_ws zt_R0 zt_T0 6, x ∈ zt_gw := zt_lay [277, 279, 281, 283, 285, 287] (by decide +kernel)
theorem zt_l1 : ∀ x ∈ u_ws zt_R1 zt_T1 4, x ∈ zt_gw := zt_lay [203, 205, 207, 209] (by decide +kernel)
theorem zt_l2 : ∀ x ∈ u_ws zt_R2 zt_T2 6, x ∈ zt_gw := zt_lay [173, 175, 177, 179, 181, 183] (by decide +kernel)
theorem zt_l3 : ∀ x ∈ u_ws zt_R3 zt_T3 11, x ∈ zt_gw := zt_lay [240, 242, 244, 246, 248, 250, 252, 254, 256, 258, 260] (by decide +kernel)
theorem zt_l4 : ∀ x ∈ u_ws zt_R4 zt_T4 4, x ∈ zt_gw := zt_lay [333, 335, 337, 339] (by decide +kernel)
theorem zt_l5 : ∀ x ∈ u_ws zt_R5 zt_T5 5, x ∈ zt_gw := zt_lay [310, 312, 314, 316, 318] (by decide +kernel)
theorem zt_l6 : ∀ x ∈ u_ws zt_R6 zt_T6 15, x ∈ zt_gw := zt_lay [357, 359, 361, 363, 365, 367, 369, 371, 373, 375, 377, 379, 381, 383, 385] (by decide +kernel)
theorem zt_l7 : ∀ x ∈ u_ws zt_R7 zt_T7 47, x ∈ zt_gw := zt_lay [907, 909, 911, 913, 915, 917, 919, 921, 923, 925, 927, 929, 931, 933, 935, 937, 939, 941, 943, 945, 947, 949, 951, 953, 955, 957, 959, 961, 963, 965, 967, 969, 971, 973, 975, 977, 979, 981, 983, 985, 987, 989, 991, 993, 995, 997, 999] (by decide +kernel)
end
section
/-! the methods, instruction by instruction (printed by wip/whole/gen_tables.py) -/
def zt_F_build : zm_M := (⟨"QuadricFlats$Flats", "build", "(LQuadricFlats$Quadric;)V"⟩, prog_2_method_2_code, 3, none, 1, false, 0, [
  some (.aload_n 0, 1, 0, 0, 0, 0, 0), some (.aload_n 1, 1, 0, 0, 1, 0, 0), some (.getfield 21, 3, 0, 0, 3, 8, 0), none, none, some (.bipush 64, 2, 64, 0, 0, 0, 0),
  none, some (.invokestatic 27, 3, 0, 0, 0, 0, 98), none, none, some (.putfield 33, 3, 0, 0, 0, 3, 0), none,
  none, some (.aload_n 0, 1, 0, 0, 0, 0, 0), some (.aload_n 1, 1, 0, 0, 1, 0, 0), some (.invokevirtual 36, 3, 0, 0, 1, 1, 0), none, none,
  some (.aload_n 0, 1, 0, 0, 0, 0, 0), some (.iconst 0, 1, 0, 0, 0, 0, 0), some (.putfield 40, 3, 0, 0, 0, 4, 0), none, none, some (.iconst 0, 1, 0, 0, 0, 0, 0),
  some (.istore_n 2, 1, 0, 0, 2, 0, 0), some (.iload_n 2, 1, 0, 0, 2, 0, 0), some (.aload_n 0, 1, 0, 0, 0, 0, 0), some (.getfield 33, 3, 0, 0, 0, 3, 0), none, none,
  some (.if_icmp .ge 14, 3, 0, 0, 44, 0, 0), none, none, some (.aload_n 0, 1, 0, 0, 0, 0, 0), some (.iload_n 2, 1, 0, 0, 2, 0, 0), some (.invokevirtual 43, 3, 0, 0, 2, 1, 0),
  none, none, some (.iinc 2 1, 3, 1, 0, 2, 0, 0), none, none, some (.goto (-16), 3, 0, 0, 25, 0, 0),
  none, none, some (.aload_n 0, 1, 0, 0, 0, 0, 0), some (.iconst 0, 1, 0, 0, 0, 0, 0), some (.putfield 47, 3, 0, 0, 0, 5, 0), none,
  none, some (.iconst 0, 1, 0, 0, 0, 0, 0), some (.istore_n 2, 1, 0, 0, 2, 0, 0), some (.iload_n 2, 1, 0, 0, 2, 0, 0), some (.aload_n 0, 1, 0, 0, 0, 0, 0), some (.getfield 40, 3, 0, 0, 0, 4, 0),
  none, none, some (.if_icmp .ge 19, 3, 0, 0, 75, 0, 0), none, none, some (.aload_n 0, 1, 0, 0, 0, 0, 0),
  some (.aload_n 0, 1, 0, 0, 0, 0, 0), some (.getfield 15, 3, 0, 0, 0, 1, 0), none, none, some (.iload_n 2, 1, 0, 0, 2, 0, 0), some (.laload, 1, 0, 0, 0, 0, 0),
  some (.invokevirtual 50, 3, 0, 0, 3, 1, 0), none, none, some (.iinc 2 1, 3, 1, 0, 2, 0, 0), none, none,
  some (.goto (-21), 3, 0, 0, 51, 0, 0), none, none, some (.return_, 1, 0, 0, 0, 0, 0)])
def zt_F_findLinks : zm_M := (⟨"QuadricFlats$Flats", "findLinks", "(LQuadricFlats$Quadric;)V"⟩, prog_2_method_3_code, 4, none, 1, false, 0, [
  some (.iconst 0, 1, 0, 0, 0, 0, 0), some (.istore_n 2, 1, 0, 0, 2, 0, 0), some (.iload_n 2, 1, 0, 0, 2, 0, 0), some (.aload_n 0, 1, 0, 0, 0, 0, 0), some (.getfield 33, 3, 0, 0, 0, 3, 0), none,
  none, some (.if_icmp .ge 78, 3, 0, 0, 85, 0, 0), none, none, some (.aload_n 0, 1, 0, 0, 0, 0, 0), some (.getfield 9, 3, 0, 0, 0, 0, 0),
  none, none, some (.iload_n 2, 1, 0, 0, 2, 0, 0), some (.lconst 1, 1, 0, 1, 0, 0, 0), some (.iload_n 2, 1, 0, 0, 2, 0, 0), some (.lshl, 1, 0, 0, 0, 0, 0),
  some (.lastore, 1, 0, 0, 0, 0, 0), some (.iconst 0, 1, 0, 0, 0, 0, 0), some (.istore_n 3, 1, 0, 0, 3, 0, 0), some (.iload_n 3, 1, 0, 0, 3, 0, 0), some (.iload_n 2, 1, 0, 0, 2, 0, 0), some (.if_icmp .ge 56, 3, 0, 0, 79, 0, 0),
  none, none, some (.aload_n 1, 1, 0, 0, 1, 0, 0), some (.aload_n 1, 1, 0, 0, 1, 0, 0), some (.getfield 54, 3, 0, 0, 3, 4, 0), none,
  none, some (.aload_n 1, 1, 0, 0, 1, 0, 0), some (.getfield 58, 3, 0, 0, 3, 6, 0), none, none, some (.iload_n 2, 1, 0, 0, 2, 0, 0),
  some (.iaload, 1, 0, 0, 0, 0, 0), some (.aload_n 1, 1, 0, 0, 1, 0, 0), some (.getfield 58, 3, 0, 0, 3, 6, 0), none, none, some (.iload_n 3, 1, 0, 0, 3, 0, 0),
  some (.iaload, 1, 0, 0, 0, 0, 0), some (.invokevirtual 61, 3, 0, 0, 37, 3, 3), none, none, some (.ifCond .ne 27, 3, 0, 0, 73, 0, 0), none,
  none, some (.aload_n 0, 1, 0, 0, 0, 0, 0), some (.getfield 9, 3, 0, 0, 0, 0, 0), none, none, some (.iload_n 2, 1, 0, 0, 2, 0, 0),
  some (.dup2, 1, 0, 0, 0, 0, 0), some (.laload, 1, 0, 0, 0, 0, 0), some (.lconst 1, 1, 0, 1, 0, 0, 0), some (.iload_n 3, 1, 0, 0, 3, 0, 0), some (.lshl, 1, 0, 0, 0, 0, 0), some (.lor, 1, 0, 0, 0, 0, 0),
  some (.lastore, 1, 0, 0, 0, 0, 0), some (.aload_n 0, 1, 0, 0, 0, 0, 0), some (.getfield 9, 3, 0, 0, 0, 0, 0), none, none, some (.iload_n 3, 1, 0, 0, 3, 0, 0),
  some (.dup2, 1, 0, 0, 0, 0, 0), some (.laload, 1, 0, 0, 0, 0, 0), some (.lconst 1, 1, 0, 1, 0, 0, 0), some (.iload_n 2, 1, 0, 0, 2, 0, 0), some (.lshl, 1, 0, 0, 0, 0, 0), some (.lor, 1, 0, 0, 0, 0, 0),
  some (.lastore, 1, 0, 0, 0, 0, 0), some (.iinc 3 1, 3, 1, 0, 3, 0, 0), none, none, some (.goto (-55), 3, 0, 0, 21, 0, 0), none,
  none, some (.iinc 2 1, 3, 1, 0, 2, 0, 0), none, none, some (.goto (-80), 3, 0, 0, 2, 0, 0), none,
  none, some (.return_, 1, 0, 0, 0, 0, 0)])
def zt_F_addLines : zm_M := (⟨"QuadricFlats$Flats", "addLines", "(I)V"⟩, prog_2_method_4_code, 7, none, 1, false, 0, [
  some (.aload_n 0, 1, 0, 0, 0, 0, 0), some (.getfield 9, 3, 0, 0, 0, 0, 0), none, none, some (.iload_n 1, 1, 0, 0, 1, 0, 0), some (.laload, 1, 0, 0, 0, 0, 0),
  some (.lconst 1, 1, 0, 1, 0, 0, 0), some (.iload_n 1, 1, 0, 0, 1, 0, 0), some (.lshl, 1, 0, 0, 0, 0, 0), some (.ldc2_w 65, 3, 0, (-1), 0, 0, 0), none, none,
  some (.lxor, 1, 0, 0, 0, 0, 0), some (.land, 1, 0, 0, 0, 0, 0), some (.lstore_n 2, 1, 0, 0, 2, 0, 0), some (.iconst 0, 1, 0, 0, 0, 0, 0), some (.istore 4, 2, 0, 0, 4, 0, 0), none,
  some (.iload 4, 2, 0, 0, 4, 0, 0), none, some (.aload_n 0, 1, 0, 0, 0, 0, 0), some (.getfield 33, 3, 0, 0, 0, 3, 0), none, none,
  some (.if_icmp .ge 86, 3, 0, 0, 110, 0, 0), none, none, some (.lload_n 2, 1, 0, 0, 2, 0, 0), some (.iload 4, 2, 0, 0, 4, 0, 0), none,
  some (.lushr, 1, 0, 0, 0, 0, 0), some (.lconst 1, 1, 0, 1, 0, 0, 0), some (.land, 1, 0, 0, 0, 0, 0), some (.lconst 0, 1, 0, 0, 0, 0, 0), some (.lcmp, 1, 0, 0, 0, 0, 0), some (.ifCond .eq 69, 3, 0, 0, 104, 0, 0),
  none, none, some (.aload_n 0, 1, 0, 0, 0, 0, 0), some (.lconst 1, 1, 0, 1, 0, 0, 0), some (.iload_n 1, 1, 0, 0, 1, 0, 0), some (.lshl, 1, 0, 0, 0, 0, 0),
  some (.lconst 1, 1, 0, 1, 0, 0, 0), some (.iload 4, 2, 0, 0, 4, 0, 0), none, some (.lshl, 1, 0, 0, 0, 0, 0), some (.lor, 1, 0, 0, 0, 0, 0), some (.invokevirtual 67, 3, 0, 0, 4, 1, 0),
  none, none, some (.lstore 5, 2, 0, 0, 5, 0, 0), none, some (.lload_n 2, 1, 0, 0, 2, 0, 0), some (.lload 5, 2, 0, 0, 5, 0, 0),
  none, some (.ldc2_w 65, 3, 0, (-1), 0, 0, 0), none, none, some (.lxor, 1, 0, 0, 0, 0, 0), some (.land, 1, 0, 0, 0, 0, 0),
  some (.lstore_n 2, 1, 0, 0, 2, 0, 0), some (.lload 5, 2, 0, 0, 5, 0, 0), none, some (.lload 5, 2, 0, 0, 5, 0, 0), none, some (.lneg, 1, 0, 0, 0, 0, 0),
  some (.land, 1, 0, 0, 0, 0, 0), some (.lconst 1, 1, 0, 1, 0, 0, 0), some (.iload_n 1, 1, 0, 0, 1, 0, 0), some (.lshl, 1, 0, 0, 0, 0, 0), some (.lcmp, 1, 0, 0, 0, 0, 0), some (.ifCond .ne 33, 3, 0, 0, 104, 0, 0),
  none, none, some (.aload_n 0, 1, 0, 0, 0, 0, 0), some (.getfield 40, 3, 0, 0, 0, 4, 0), none, none,
  some (.bipush 105, 2, 105, 0, 0, 0, 0), none, some (.if_icmp .ge 24, 3, 0, 0, 104, 0, 0), none, none, some (.aload_n 0, 1, 0, 0, 0, 0, 0),
  some (.getfield 15, 3, 0, 0, 0, 1, 0), none, none, some (.aload_n 0, 1, 0, 0, 0, 0, 0), some (.getfield 40, 3, 0, 0, 0, 4, 0), none,
  none, some (.lload 5, 2, 0, 0, 5, 0, 0), none, some (.lastore, 1, 0, 0, 0, 0, 0), some (.aload_n 0, 1, 0, 0, 0, 0, 0), some (.dup, 1, 0, 0, 0, 0, 0),
  some (.getfield 40, 3, 0, 0, 0, 4, 0), none, none, some (.iconst 1, 1, 1, 0, 0, 0, 0), some (.iadd, 1, 0, 0, 0, 0, 0), some (.putfield 40, 3, 0, 0, 0, 4, 0),
  none, none, some (.iinc 4 1, 3, 1, 0, 4, 0, 0), none, none, some (.goto (-89), 3, 0, 0, 18, 0, 0),
  none, none, some (.return_, 1, 0, 0, 0, 0, 0)])
def zt_F_addPlanes : zm_M := (⟨"QuadricFlats$Flats", "addPlanes", "(J)V"⟩, prog_2_method_5_code, 8, none, 1, false, 0, [
  some (.aload_n 0, 1, 0, 0, 0, 0, 0), some (.lload_n 1, 1, 0, 0, 1, 0, 0), some (.invokevirtual 71, 3, 0, 0, 5, 1, 0), none, none, some (.lload_n 1, 1, 0, 0, 1, 0, 0),
  some (.ldc2_w 65, 3, 0, (-1), 0, 0, 0), none, none, some (.lxor, 1, 0, 0, 0, 0, 0), some (.land, 1, 0, 0, 0, 0, 0), some (.lstore_n 3, 1, 0, 0, 3, 0, 0),
  some (.iconst 0, 1, 0, 0, 0, 0, 0), some (.istore 5, 2, 0, 0, 5, 0, 0), none, some (.iload 5, 2, 0, 0, 5, 0, 0), none, some (.aload_n 0, 1, 0, 0, 0, 0, 0),
  some (.getfield 33, 3, 0, 0, 0, 3, 0), none, none, some (.if_icmp .ge 84, 3, 0, 0, 105, 0, 0), none, none,
  some (.lload_n 3, 1, 0, 0, 3, 0, 0), some (.iload 5, 2, 0, 0, 5, 0, 0), none, some (.lushr, 1, 0, 0, 0, 0, 0), some (.lconst 1, 1, 0, 1, 0, 0, 0), some (.land, 1, 0, 0, 0, 0, 0),
  some (.lconst 0, 1, 0, 0, 0, 0, 0), some (.lcmp, 1, 0, 0, 0, 0, 0), some (.ifCond .eq 67, 3, 0, 0, 99, 0, 0), none, none, some (.aload_n 0, 1, 0, 0, 0, 0, 0),
  some (.lload_n 1, 1, 0, 0, 1, 0, 0), some (.lconst 1, 1, 0, 1, 0, 0, 0), some (.iload 5, 2, 0, 0, 5, 0, 0), none, some (.lshl, 1, 0, 0, 0, 0, 0), some (.lor, 1, 0, 0, 0, 0, 0),
  some (.invokevirtual 67, 3, 0, 0, 4, 1, 0), none, none, some (.lstore 6, 2, 0, 0, 6, 0, 0), none, some (.lload_n 3, 1, 0, 0, 3, 0, 0),
  some (.lload 6, 2, 0, 0, 6, 0, 0), none, some (.ldc2_w 65, 3, 0, (-1), 0, 0, 0), none, none, some (.lxor, 1, 0, 0, 0, 0, 0),
  some (.land, 1, 0, 0, 0, 0, 0), some (.lstore_n 3, 1, 0, 0, 3, 0, 0), some (.lload 6, 2, 0, 0, 6, 0, 0), none, some (.invokestatic 74, 3, 0, 0, 6, 1, 0), none,
  none, some (.lload_n 1, 1, 0, 0, 1, 0, 0), some (.invokestatic 74, 3, 0, 0, 6, 1, 0), none, none, some (.lcmp, 1, 0, 0, 0, 0, 0),
  some (.ifCond .ne 33, 3, 0, 0, 99, 0, 0), none, none, some (.aload_n 0, 1, 0, 0, 0, 0, 0), some (.getfield 47, 3, 0, 0, 0, 5, 0), none,
  none, some (.bipush 30, 2, 30, 0, 0, 0, 0), none, some (.if_icmp .ge 24, 3, 0, 0, 99, 0, 0), none, none,
  some (.aload_n 0, 1, 0, 0, 0, 0, 0), some (.getfield 18, 3, 0, 0, 0, 2, 0), none, none, some (.aload_n 0, 1, 0, 0, 0, 0, 0), some (.getfield 47, 3, 0, 0, 0, 5, 0),
  none, none, some (.lload 6, 2, 0, 0, 6, 0, 0), none, some (.lastore, 1, 0, 0, 0, 0, 0), some (.aload_n 0, 1, 0, 0, 0, 0, 0),
  some (.dup, 1, 0, 0, 0, 0, 0), some (.getfield 47, 3, 0, 0, 0, 5, 0), none, none, some (.iconst 1, 1, 1, 0, 0, 0, 0), some (.iadd, 1, 0, 0, 0, 0, 0),
  some (.putfield 47, 3, 0, 0, 0, 5, 0), none, none, some (.iinc 5 1, 3, 1, 0, 5, 0, 0), none, none,
  some (.goto (-87), 3, 0, 0, 15, 0, 0), none, none, some (.return_, 1, 0, 0, 0, 0, 0)])
def zt_F_spanned : zm_M := (⟨"QuadricFlats$Flats", "spanned", "(J)J"⟩, prog_2_method_6_code, 3, some .long, 1, false, 0, [
  some (.aload_n 0, 1, 0, 0, 0, 0, 0), some (.aload_n 0, 1, 0, 0, 0, 0, 0), some (.lload_n 1, 1, 0, 0, 1, 0, 0), some (.invokevirtual 71, 3, 0, 0, 5, 1, 0), none, none,
  some (.invokevirtual 71, 3, 0, 0, 5, 1, 0), none, none, some (.lreturn, 1, 0, 0, 0, 0, 0)])
def zt_F_linkedWithAll : zm_M := (⟨"QuadricFlats$Flats", "linkedWithAll", "(J)J"⟩, prog_2_method_7_code, 6, some .long, 1, false, 0, [
  some (.ldc2_w 65, 3, 0, (-1), 0, 0, 0), none, none, some (.lstore_n 3, 1, 0, 0, 3, 0, 0), some (.iconst 0, 1, 0, 0, 0, 0, 0), some (.istore 5, 2, 0, 0, 5, 0, 0),
  none, some (.iload 5, 2, 0, 0, 5, 0, 0), none, some (.aload_n 0, 1, 0, 0, 0, 0, 0), some (.getfield 33, 3, 0, 0, 0, 3, 0), none,
  none, some (.if_icmp .ge 30, 3, 0, 0, 43, 0, 0), none, none, some (.lload_n 1, 1, 0, 0, 1, 0, 0), some (.iload 5, 2, 0, 0, 5, 0, 0),
  none, some (.lushr, 1, 0, 0, 0, 0, 0), some (.lconst 1, 1, 0, 1, 0, 0, 0), some (.land, 1, 0, 0, 0, 0, 0), some (.lconst 0, 1, 0, 0, 0, 0, 0), some (.lcmp, 1, 0, 0, 0, 0, 0),
  some (.ifCond .eq 13, 3, 0, 0, 37, 0, 0), none, none, some (.lload_n 3, 1, 0, 0, 3, 0, 0), some (.aload_n 0, 1, 0, 0, 0, 0, 0), some (.getfield 9, 3, 0, 0, 0, 0, 0),
  none, none, some (.iload 5, 2, 0, 0, 5, 0, 0), none, some (.laload, 1, 0, 0, 0, 0, 0), some (.land, 1, 0, 0, 0, 0, 0),
  some (.lstore_n 3, 1, 0, 0, 3, 0, 0), some (.iinc 5 1, 3, 1, 0, 5, 0, 0), none, none, some (.goto (-33), 3, 0, 0, 7, 0, 0), none,
  none, some (.lload_n 3, 1, 0, 0, 3, 0, 0), some (.lreturn, 1, 0, 0, 0, 0, 0)])
def zt_F_lowestTwo : zm_M := (⟨"QuadricFlats$Flats", "lowestTwo", "(J)J"⟩, prog_2_method_8_code, 4, some .long, 1, true, 0, [
  some (.lload_n 0, 1, 0, 0, 0, 0, 0), some (.lload_n 0, 1, 0, 0, 0, 0, 0), some (.lconst 1, 1, 0, 1, 0, 0, 0), some (.lsub, 1, 0, 0, 0, 0, 0), some (.land, 1, 0, 0, 0, 0, 0), some (.lstore_n 2, 1, 0, 0, 2, 0, 0),
  some (.lload_n 0, 1, 0, 0, 0, 0, 0), some (.lload_n 0, 1, 0, 0, 0, 0, 0), some (.lneg, 1, 0, 0, 0, 0, 0), some (.land, 1, 0, 0, 0, 0, 0), some (.lload_n 2, 1, 0, 0, 2, 0, 0), some (.lload_n 2, 1, 0, 0, 2, 0, 0),
  some (.lneg, 1, 0, 0, 0, 0, 0), some (.land, 1, 0, 0, 0, 0, 0), some (.lor, 1, 0, 0, 0, 0, 0), some (.lreturn, 1, 0, 0, 0, 0, 0)])
def zt_F_totalOf : zm_M := (⟨"QuadricFlats$Flats", "totalOf", "(I)I"⟩, prog_2_method_9_code, 2, some .int, 1, false, 0, [
  some (.iload_n 1, 1, 0, 0, 1, 0, 0), some (.tableswitch 42 1 3 #[27, 32, 37], 27, 0, 0, 0, 0, 0), none, none, none, none,
  none, none, none, none, none, none,
  none, none, none, none, none, none,
  none, none, none, none, none, none,
  none, none, none, none, some (.aload_n 0, 1, 0, 0, 0, 0, 0), some (.getfield 33, 3, 0, 0, 0, 3, 0),
  none, none, some (.ireturn, 1, 0, 0, 0, 0, 0), some (.aload_n 0, 1, 0, 0, 0, 0, 0), some (.getfield 40, 3, 0, 0, 0, 4, 0), none,
  none, some (.ireturn, 1, 0, 0, 0, 0, 0), some (.aload_n 0, 1, 0, 0, 0, 0, 0), some (.getfield 47, 3, 0, 0, 0, 5, 0), none, none,
  some (.ireturn, 1, 0, 0, 0, 0, 0), some (.iconst 0, 1, 0, 0, 0, 0, 0), some (.ireturn, 1, 0, 0, 0, 0, 0)])
def zt_F_maskOf : zm_M := (⟨"QuadricFlats$Flats", "maskOf", "(II)J"⟩, prog_2_method_10_code, 3, some .long, 2, false, 0, [
  some (.iload_n 1, 1, 0, 0, 1, 0, 0), some (.tableswitch 45 1 3 #[27, 31, 38], 27, 0, 0, 0, 0, 0), none, none, none, none,
  none, none, none, none, none, none,
  none, none, none, none, none, none,
  none, none, none, none, none, none,
  none, none, none, none, some (.lconst 1, 1, 0, 1, 0, 0, 0), some (.iload_n 2, 1, 0, 0, 2, 0, 0),
  some (.lshl, 1, 0, 0, 0, 0, 0), some (.lreturn, 1, 0, 0, 0, 0, 0), some (.aload_n 0, 1, 0, 0, 0, 0, 0), some (.getfield 15, 3, 0, 0, 0, 1, 0), none, none,
  some (.iload_n 2, 1, 0, 0, 2, 0, 0), some (.laload, 1, 0, 0, 0, 0, 0), some (.lreturn, 1, 0, 0, 0, 0, 0), some (.aload_n 0, 1, 0, 0, 0, 0, 0), some (.getfield 18, 3, 0, 0, 0, 2, 0), none,
  none, some (.iload_n 2, 1, 0, 0, 2, 0, 0), some (.laload, 1, 0, 0, 0, 0, 0), some (.lreturn, 1, 0, 0, 0, 0, 0), some (.lconst 0, 1, 0, 0, 0, 0, 0), some (.lreturn, 1, 0, 0, 0, 0, 0)])
def zt_O_hasVariable : zm_M := (⟨"QuadricFlats$Form", "hasVariable", "(I)Z"⟩, prog_3_method_2_code, 2, some .boolean, 1, false, 1, [
  some (.iload_n 1, 1, 0, 0, 1, 0, 0), some (.ifCond .lt 15, 3, 0, 0, 16, 0, 0), none, none, some (.iload_n 1, 1, 0, 0, 1, 0, 0), some (.aload_n 0, 1, 0, 0, 0, 0, 0),
  some (.getfield 22, 3, 0, 0, 1, 1, 0), none, none, some (.if_icmp .ge 7, 3, 0, 0, 16, 0, 0), none, none,
  some (.iconst 1, 1, 1, 0, 0, 0, 0), some (.goto 4, 3, 0, 0, 17, 0, 0), none, none, some (.iconst 0, 1, 0, 0, 0, 0, 0), some (.ireturn, 1, 0, 0, 0, 0, 0)])
def zt_O_cell : zm_M := (⟨"QuadricFlats$Form", "cell", "(II)I"⟩, prog_3_method_3_code, 3, some .int, 2, false, 1, [
  some (.aload_n 0, 1, 0, 0, 0, 0, 0), some (.getfield 15, 3, 0, 0, 1, 2, 0), none, none, some (.iload_n 1, 1, 0, 0, 1, 0, 0), some (.bipush 6, 2, 6, 0, 0, 0, 0),
  none, some (.imul, 1, 0, 0, 0, 0, 0), some (.iload_n 2, 1, 0, 0, 2, 0, 0), some (.iadd, 1, 0, 0, 0, 0, 0), some (.iaload, 1, 0, 0, 0, 0, 0), some (.ireturn, 1, 0, 0, 0, 0, 0)])
def zt_O_store : zm_M := (⟨"QuadricFlats$Form", "store", "(III)V"⟩, prog_3_method_4_code, 5, none, 3, false, 1, [
  some (.iload_n 3, 1, 0, 0, 3, 0, 0), some (.aload_n 0, 1, 0, 0, 0, 0, 0), some (.getfield 9, 3, 0, 0, 1, 0, 0), none, none, some (.invokestatic 25, 3, 0, 0, 104, 2, 0),
  none, none, some (.istore 4, 2, 0, 0, 4, 0, 0), none, some (.aload_n 0, 1, 0, 0, 0, 0, 0), some (.getfield 15, 3, 0, 0, 1, 2, 0),
  none, none, some (.iload_n 1, 1, 0, 0, 1, 0, 0), some (.bipush 6, 2, 6, 0, 0, 0, 0), none, some (.imul, 1, 0, 0, 0, 0, 0),
  some (.iload_n 2, 1, 0, 0, 2, 0, 0), some (.iadd, 1, 0, 0, 0, 0, 0), some (.iload 4, 2, 0, 0, 4, 0, 0), none, some (.iastore, 1, 0, 0, 0, 0, 0), some (.aload_n 0, 1, 0, 0, 0, 0, 0),
  some (.getfield 15, 3, 0, 0, 1, 2, 0), none, none, some (.iload_n 2, 1, 0, 0, 2, 0, 0), some (.bipush 6, 2, 6, 0, 0, 0, 0), none,
  some (.imul, 1, 0, 0, 0, 0, 0), some (.iload_n 1, 1, 0, 0, 1, 0, 0), some (.iadd, 1, 0, 0, 0, 0, 0), some (.iload 4, 2, 0, 0, 4, 0, 0), none, some (.iastore, 1, 0, 0, 0, 0, 0),
  some (.return_, 1, 0, 0, 0, 0, 0)])
def zt_O_copyFrom : zm_M := (⟨"QuadricFlats$Form", "copyFrom", "(LQuadricFlats$Form;)V"⟩, prog_3_method_5_code, 2, none, 1, false, 1, [
  some (.aload_n 0, 1, 0, 0, 0, 0, 0), some (.aload_n 1, 1, 0, 0, 1, 0, 0), some (.getfield 9, 3, 0, 0, 1, 0, 0), none, none, some (.putfield 9, 3, 0, 0, 1, 0, 0),
  none, none, some (.aload_n 0, 1, 0, 0, 0, 0, 0), some (.aload_n 1, 1, 0, 0, 1, 0, 0), some (.getfield 22, 3, 0, 0, 1, 1, 0), none,
  none, some (.putfield 22, 3, 0, 0, 1, 1, 0), none, none, some (.aload_n 1, 1, 0, 0, 1, 0, 0), some (.getfield 15, 3, 0, 0, 1, 2, 0),
  none, none, some (.iconst 0, 1, 0, 0, 0, 0, 0), some (.aload_n 0, 1, 0, 0, 0, 0, 0), some (.getfield 15, 3, 0, 0, 1, 2, 0), none,
  none, some (.iconst 0, 1, 0, 0, 0, 0, 0), some (.bipush 36, 2, 36, 0, 0, 0, 0), none, some (.invokestatic 29, 3, 0, 0, 0, 0, 99), none,
  none, some (.return_, 1, 0, 0, 0, 0, 0)])
def zt_O_exchange : zm_M := (⟨"QuadricFlats$Form", "exchange", "(II)V"⟩, prog_3_method_6_code, 5, none, 2, false, 1, [
  some (.iconst 0, 1, 0, 0, 0, 0, 0), some (.istore_n 3, 1, 0, 0, 3, 0, 0), some (.iload_n 3, 1, 0, 0, 3, 0, 0), some (.aload_n 0, 1, 0, 0, 0, 0, 0), some (.getfield 22, 3, 0, 0, 1, 1, 0), none,
  none, some (.if_icmp .ge 47, 3, 0, 0, 54, 0, 0), none, none, some (.iload_n 3, 1, 0, 0, 3, 0, 0), some (.iload_n 1, 1, 0, 0, 1, 0, 0),
  some (.if_icmp .eq 36, 3, 0, 0, 48, 0, 0), none, none, some (.iload_n 3, 1, 0, 0, 3, 0, 0), some (.iload_n 2, 1, 0, 0, 2, 0, 0), some (.if_icmp .eq 31, 3, 0, 0, 48, 0, 0),
  none, none, some (.aload_n 0, 1, 0, 0, 0, 0, 0), some (.iload_n 1, 1, 0, 0, 1, 0, 0), some (.iload_n 3, 1, 0, 0, 3, 0, 0), some (.invokevirtual 35, 3, 0, 0, 10, 2, 1),
  none, none, some (.istore 4, 2, 0, 0, 4, 0, 0), none, some (.aload_n 0, 1, 0, 0, 0, 0, 0), some (.iload_n 1, 1, 0, 0, 1, 0, 0),
  some (.iload_n 3, 1, 0, 0, 3, 0, 0), some (.aload_n 0, 1, 0, 0, 0, 0, 0), some (.iload_n 2, 1, 0, 0, 2, 0, 0), some (.iload_n 3, 1, 0, 0, 3, 0, 0), some (.invokevirtual 35, 3, 0, 0, 10, 2, 1), none,
  none, some (.invokevirtual 38, 3, 0, 0, 11, 3, 1), none, none, some (.aload_n 0, 1, 0, 0, 0, 0, 0), some (.iload_n 2, 1, 0, 0, 2, 0, 0),
  some (.iload_n 3, 1, 0, 0, 3, 0, 0), some (.iload 4, 2, 0, 0, 4, 0, 0), none, some (.invokevirtual 38, 3, 0, 0, 11, 3, 1), none, none,
  some (.iinc 3 1, 3, 1, 0, 3, 0, 0), none, none, some (.goto (-49), 3, 0, 0, 2, 0, 0), none, none,
  some (.aload_n 0, 1, 0, 0, 0, 0, 0), some (.iload_n 1, 1, 0, 0, 1, 0, 0), some (.iload_n 1, 1, 0, 0, 1, 0, 0), some (.invokevirtual 35, 3, 0, 0, 10, 2, 1), none, none,
  some (.istore_n 3, 1, 0, 0, 3, 0, 0), some (.aload_n 0, 1, 0, 0, 0, 0, 0), some (.iload_n 1, 1, 0, 0, 1, 0, 0), some (.iload_n 1, 1, 0, 0, 1, 0, 0), some (.aload_n 0, 1, 0, 0, 0, 0, 0), some (.iload_n 2, 1, 0, 0, 2, 0, 0),
  some (.iload_n 2, 1, 0, 0, 2, 0, 0), some (.invokevirtual 35, 3, 0, 0, 10, 2, 1), none, none, some (.invokevirtual 38, 3, 0, 0, 11, 3, 1), none,
  none, some (.aload_n 0, 1, 0, 0, 0, 0, 0), some (.iload_n 2, 1, 0, 0, 2, 0, 0), some (.iload_n 2, 1, 0, 0, 2, 0, 0), some (.iload_n 3, 1, 0, 0, 3, 0, 0), some (.invokevirtual 38, 3, 0, 0, 11, 3, 1),
  none, none, some (.return_, 1, 0, 0, 0, 0, 0)])
def zt_O_shear : zm_M := (⟨"QuadricFlats$Form", "shear", "(III)V"⟩, prog_3_method_7_code, 5, none, 3, false, 1, [
  some (.aload_n 0, 1, 0, 0, 0, 0, 0), some (.iload_n 2, 1, 0, 0, 2, 0, 0), some (.iload_n 2, 1, 0, 0, 2, 0, 0), some (.aload_n 0, 1, 0, 0, 0, 0, 0), some (.iload_n 2, 1, 0, 0, 2, 0, 0), some (.iload_n 2, 1, 0, 0, 2, 0, 0),
  some (.invokevirtual 35, 3, 0, 0, 10, 2, 1), none, none, some (.iload_n 3, 1, 0, 0, 3, 0, 0), some (.aload_n 0, 1, 0, 0, 0, 0, 0), some (.iload_n 1, 1, 0, 0, 1, 0, 0),
  some (.iload_n 2, 1, 0, 0, 2, 0, 0), some (.invokevirtual 35, 3, 0, 0, 10, 2, 1), none, none, some (.imul, 1, 0, 0, 0, 0, 0), some (.iadd, 1, 0, 0, 0, 0, 0),
  some (.iload_n 3, 1, 0, 0, 3, 0, 0), some (.iload_n 3, 1, 0, 0, 3, 0, 0), some (.imul, 1, 0, 0, 0, 0, 0), some (.aload_n 0, 1, 0, 0, 0, 0, 0), some (.iload_n 1, 1, 0, 0, 1, 0, 0), some (.iload_n 1, 1, 0, 0, 1, 0, 0),
  some (.invokevirtual 35, 3, 0, 0, 10, 2, 1), none, none, some (.imul, 1, 0, 0, 0, 0, 0), some (.iadd, 1, 0, 0, 0, 0, 0), some (.invokevirtual 38, 3, 0, 0, 11, 3, 1),
  none, none, some (.iconst 0, 1, 0, 0, 0, 0, 0), some (.istore 4, 2, 0, 0, 4, 0, 0), none, some (.iload 4, 2, 0, 0, 4, 0, 0),
  none, some (.aload_n 0, 1, 0, 0, 0, 0, 0), some (.getfield 22, 3, 0, 0, 1, 1, 0), none, none, some (.if_icmp .ge 45, 3, 0, 0, 86, 0, 0),
  none, none, some (.iload 4, 2, 0, 0, 4, 0, 0), none, some (.iload_n 1, 1, 0, 0, 1, 0, 0), some (.if_icmp .eq 33, 3, 0, 0, 80, 0, 0),
  none, none, some (.iload 4, 2, 0, 0, 4, 0, 0), none, some (.iload_n 2, 1, 0, 0, 2, 0, 0), some (.if_icmp .eq 27, 3, 0, 0, 80, 0, 0),
  none, none, some (.aload_n 0, 1, 0, 0, 0, 0, 0), some (.iload_n 2, 1, 0, 0, 2, 0, 0), some (.iload 4, 2, 0, 0, 4, 0, 0), none,
  some (.aload_n 0, 1, 0, 0, 0, 0, 0), some (.iload_n 2, 1, 0, 0, 2, 0, 0), some (.iload 4, 2, 0, 0, 4, 0, 0), none, some (.invokevirtual 35, 3, 0, 0, 10, 2, 1), none,
  none, some (.iload_n 3, 1, 0, 0, 3, 0, 0), some (.aload_n 0, 1, 0, 0, 0, 0, 0), some (.iload_n 1, 1, 0, 0, 1, 0, 0), some (.iload 4, 2, 0, 0, 4, 0, 0), none,
  some (.invokevirtual 35, 3, 0, 0, 10, 2, 1), none, none, some (.imul, 1, 0, 0, 0, 0, 0), some (.iadd, 1, 0, 0, 0, 0, 0), some (.invokevirtual 38, 3, 0, 0, 11, 3, 1),
  none, none, some (.iinc 4 1, 3, 1, 0, 4, 0, 0), none, none, some (.goto (-48), 3, 0, 0, 35, 0, 0),
  none, none, some (.aload_n 0, 1, 0, 0, 0, 0, 0), some (.iload_n 1, 1, 0, 0, 1, 0, 0), some (.iload_n 2, 1, 0, 0, 2, 0, 0), some (.aload_n 0, 1, 0, 0, 0, 0, 0),
  some (.iload_n 1, 1, 0, 0, 1, 0, 0), some (.iload_n 2, 1, 0, 0, 2, 0, 0), some (.invokevirtual 35, 3, 0, 0, 10, 2, 1), none, none, some (.iconst 2, 1, 2, 0, 0, 0, 0),
  some (.iload_n 3, 1, 0, 0, 3, 0, 0), some (.imul, 1, 0, 0, 0, 0, 0), some (.aload_n 0, 1, 0, 0, 0, 0, 0), some (.iload_n 1, 1, 0, 0, 1, 0, 0), some (.iload_n 1, 1, 0, 0, 1, 0, 0), some (.invokevirtual 35, 3, 0, 0, 10, 2, 1),
  none, none, some (.imul, 1, 0, 0, 0, 0, 0), some (.iadd, 1, 0, 0, 0, 0, 0), some (.invokevirtual 38, 3, 0, 0, 11, 3, 1), none,
  none, some (.return_, 1, 0, 0, 0, 0, 0)])
def zt_O_stretch : zm_M := (⟨"QuadricFlats$Form", "stretch", "(II)V"⟩, prog_3_method_8_code, 4, none, 2, false, 1, [
  some (.iconst 0, 1, 0, 0, 0, 0, 0), some (.istore_n 3, 1, 0, 0, 3, 0, 0), some (.iload_n 3, 1, 0, 0, 3, 0, 0), some (.aload_n 0, 1, 0, 0, 0, 0, 0), some (.getfield 22, 3, 0, 0, 1, 1, 0), none,
  none, some (.if_icmp .ge 34, 3, 0, 0, 41, 0, 0), none, none, some (.aload_n 0, 1, 0, 0, 0, 0, 0), some (.iload_n 1, 1, 0, 0, 1, 0, 0),
  some (.iload_n 3, 1, 0, 0, 3, 0, 0), some (.iload_n 3, 1, 0, 0, 3, 0, 0), some (.iload_n 1, 1, 0, 0, 1, 0, 0), some (.if_icmp .ne 9, 3, 0, 0, 24, 0, 0), none, none,
  some (.iload_n 2, 1, 0, 0, 2, 0, 0), some (.iload_n 2, 1, 0, 0, 2, 0, 0), some (.imul, 1, 0, 0, 0, 0, 0), some (.goto 4, 3, 0, 0, 25, 0, 0), none, none,
  some (.iload_n 2, 1, 0, 0, 2, 0, 0), some (.aload_n 0, 1, 0, 0, 0, 0, 0), some (.iload_n 1, 1, 0, 0, 1, 0, 0), some (.iload_n 3, 1, 0, 0, 3, 0, 0), some (.invokevirtual 35, 3, 0, 0, 10, 2, 1), none,
  none, some (.imul, 1, 0, 0, 0, 0, 0), some (.invokevirtual 38, 3, 0, 0, 11, 3, 1), none, none, some (.iinc 3 1, 3, 1, 0, 3, 0, 0),
  none, none, some (.goto (-36), 3, 0, 0, 2, 0, 0), none, none, some (.return_, 1, 0, 0, 0, 0, 0)])
def zt_O_multiply : zm_M := (⟨"QuadricFlats$Form", "multiply", "(I)V"⟩, prog_3_method_9_code, 4, none, 1, false, 1, [
  some (.iconst 0, 1, 0, 0, 0, 0, 0), some (.istore_n 2, 1, 0, 0, 2, 0, 0), some (.iload_n 2, 1, 0, 0, 2, 0, 0), some (.aload_n 0, 1, 0, 0, 0, 0, 0), some (.getfield 22, 3, 0, 0, 1, 1, 0), none,
  none, some (.if_icmp .ge 39, 3, 0, 0, 46, 0, 0), none, none, some (.iload_n 2, 1, 0, 0, 2, 0, 0), some (.istore_n 3, 1, 0, 0, 3, 0, 0),
  some (.iload_n 3, 1, 0, 0, 3, 0, 0), some (.aload_n 0, 1, 0, 0, 0, 0, 0), some (.getfield 22, 3, 0, 0, 1, 1, 0), none, none, some (.if_icmp .ge 23, 3, 0, 0, 40, 0, 0),
  none, none, some (.aload_n 0, 1, 0, 0, 0, 0, 0), some (.iload_n 2, 1, 0, 0, 2, 0, 0), some (.iload_n 3, 1, 0, 0, 3, 0, 0), some (.iload_n 1, 1, 0, 0, 1, 0, 0),
  some (.aload_n 0, 1, 0, 0, 0, 0, 0), some (.iload_n 2, 1, 0, 0, 2, 0, 0), some (.iload_n 3, 1, 0, 0, 3, 0, 0), some (.invokevirtual 35, 3, 0, 0, 10, 2, 1), none, none,
  some (.imul, 1, 0, 0, 0, 0, 0), some (.invokevirtual 38, 3, 0, 0, 11, 3, 1), none, none, some (.iinc 3 1, 3, 1, 0, 3, 0, 0), none,
  none, some (.goto (-25), 3, 0, 0, 12, 0, 0), none, none, some (.iinc 2 1, 3, 1, 0, 2, 0, 0), none,
  none, some (.goto (-41), 3, 0, 0, 2, 0, 0), none, none, some (.return_, 1, 0, 0, 0, 0, 0)])
def zt_O_discriminant : zm_M := (⟨"QuadricFlats$Form", "discriminant", "()I"⟩, prog_3_method_10_code, 3, some .int, 0, false, 1, [
  some (.aload_n 0, 1, 0, 0, 0, 0, 0), some (.getfield 9, 3, 0, 0, 1, 0, 0), none, none, some (.iconst 2, 1, 2, 0, 0, 0, 0), some (.if_icmp .ne 5, 3, 0, 0, 10, 0, 0),
  none, none, some (.iconst 0, 1, 0, 0, 0, 0, 0), some (.ireturn, 1, 0, 0, 0, 0, 0), some (.aload_n 0, 1, 0, 0, 0, 0, 0), some (.invokevirtual 42, 3, 0, 0, 18, 0, 1),
  none, none, some (.istore_n 1, 1, 0, 0, 1, 0, 0), some (.iload_n 1, 1, 0, 0, 1, 0, 0), some (.ifCond .ne 5, 3, 0, 0, 21, 0, 0), none,
  none, some (.iconst 0, 1, 0, 0, 0, 0, 0), some (.ireturn, 1, 0, 0, 0, 0, 0), some (.iconst 1, 1, 1, 0, 0, 0, 0), some (.istore_n 2, 1, 0, 0, 2, 0, 0), some (.iload_n 2, 1, 0, 0, 2, 0, 0),
  some (.aload_n 0, 1, 0, 0, 0, 0, 0), some (.getfield 9, 3, 0, 0, 1, 0, 0), none, none, some (.if_icmp .ge 25, 3, 0, 0, 53, 0, 0), none,
  none, some (.iload_n 2, 1, 0, 0, 2, 0, 0), some (.iload_n 2, 1, 0, 0, 2, 0, 0), some (.imul, 1, 0, 0, 0, 0, 0), some (.aload_n 0, 1, 0, 0, 0, 0, 0), some (.getfield 9, 3, 0, 0, 1, 0, 0),
  none, none, some (.invokestatic 25, 3, 0, 0, 104, 2, 0), none, none, some (.iload_n 1, 1, 0, 0, 1, 0, 0),
  some (.if_icmp .ne 5, 3, 0, 0, 47, 0, 0), none, none, some (.iconst 1, 1, 1, 0, 0, 0, 0), some (.ireturn, 1, 0, 0, 0, 0, 0), some (.iinc 2 1, 3, 1, 0, 2, 0, 0),
  none, none, some (.goto (-27), 3, 0, 0, 23, 0, 0), none, none, some (.iconst (-1), 1, (-1), 0, 0, 0, 0),
  some (.ireturn, 1, 0, 0, 0, 0, 0)])
def zt_O_determinant : zm_M := (⟨"QuadricFlats$Form", "determinant", "()I"⟩, prog_3_method_11_code, 4, some .int, 0, false, 1, [
  some (.iconst 0, 1, 0, 0, 0, 0, 0), some (.istore_n 1, 1, 0, 0, 1, 0, 0), some (.iload_n 1, 1, 0, 0, 1, 0, 0), some (.aload_n 0, 1, 0, 0, 0, 0, 0), some (.getfield 22, 3, 0, 0, 1, 1, 0), none,
  none, some (.if_icmp .ge 62, 3, 0, 0, 69, 0, 0), none, none, some (.iconst 0, 1, 0, 0, 0, 0, 0), some (.istore_n 2, 1, 0, 0, 2, 0, 0),
  some (.iload_n 2, 1, 0, 0, 2, 0, 0), some (.aload_n 0, 1, 0, 0, 0, 0, 0), some (.getfield 22, 3, 0, 0, 1, 1, 0), none, none, some (.if_icmp .ge 46, 3, 0, 0, 63, 0, 0),
  none, none, some (.iload_n 1, 1, 0, 0, 1, 0, 0), some (.iload_n 2, 1, 0, 0, 2, 0, 0), some (.if_icmp .ne 7, 3, 0, 0, 29, 0, 0), none,
  none, some (.iconst 2, 1, 2, 0, 0, 0, 0), some (.goto 4, 3, 0, 0, 30, 0, 0), none, none, some (.iconst 1, 1, 1, 0, 0, 0, 0),
  some (.istore_n 3, 1, 0, 0, 3, 0, 0), some (.aload_n 0, 1, 0, 0, 0, 0, 0), some (.getfield 19, 3, 0, 0, 1, 3, 0), none, none, some (.iload_n 1, 1, 0, 0, 1, 0, 0),
  some (.bipush 6, 2, 6, 0, 0, 0, 0), none, some (.imul, 1, 0, 0, 0, 0, 0), some (.iload_n 2, 1, 0, 0, 2, 0, 0), some (.iadd, 1, 0, 0, 0, 0, 0), some (.iload_n 3, 1, 0, 0, 3, 0, 0),
  some (.aload_n 0, 1, 0, 0, 0, 0, 0), some (.iload_n 1, 1, 0, 0, 1, 0, 0), some (.iload_n 2, 1, 0, 0, 2, 0, 0), some (.invokevirtual 35, 3, 0, 0, 10, 2, 1), none, none,
  some (.imul, 1, 0, 0, 0, 0, 0), some (.aload_n 0, 1, 0, 0, 0, 0, 0), some (.getfield 9, 3, 0, 0, 1, 0, 0), none, none, some (.invokestatic 25, 3, 0, 0, 104, 2, 0),
  none, none, some (.iastore, 1, 0, 0, 0, 0, 0), some (.iinc 2 1, 3, 1, 0, 2, 0, 0), none, none,
  some (.goto (-48), 3, 0, 0, 12, 0, 0), none, none, some (.iinc 1 1, 3, 1, 0, 1, 0, 0), none, none,
  some (.goto (-64), 3, 0, 0, 2, 0, 0), none, none, some (.iconst 1, 1, 1, 0, 0, 0, 0), some (.istore_n 1, 1, 0, 0, 1, 0, 0), some (.iconst 0, 1, 0, 0, 0, 0, 0),
  some (.istore_n 2, 1, 0, 0, 2, 0, 0), some (.iload_n 2, 1, 0, 0, 2, 0, 0), some (.aload_n 0, 1, 0, 0, 0, 0, 0), some (.getfield 22, 3, 0, 0, 1, 1, 0), none, none,
  some (.if_icmp .ge 62, 3, 0, 0, 140, 0, 0), none, none, some (.aload_n 0, 1, 0, 0, 0, 0, 0), some (.iload_n 2, 1, 0, 0, 2, 0, 0), some (.invokevirtual 46, 3, 0, 0, 19, 1, 1),
  none, none, some (.istore_n 3, 1, 0, 0, 3, 0, 0), some (.iload_n 3, 1, 0, 0, 3, 0, 0), some (.iconst (-1), 1, (-1), 0, 0, 0, 0), some (.if_icmp .ne 5, 3, 0, 0, 94, 0, 0),
  none, none, some (.iconst 0, 1, 0, 0, 0, 0, 0), some (.ireturn, 1, 0, 0, 0, 0, 0), some (.iload_n 3, 1, 0, 0, 3, 0, 0), some (.iload_n 2, 1, 0, 0, 2, 0, 0),
  some (.if_icmp .eq 12, 3, 0, 0, 108, 0, 0), none, none, some (.aload_n 0, 1, 0, 0, 0, 0, 0), some (.iload_n 2, 1, 0, 0, 2, 0, 0), some (.iload_n 3, 1, 0, 0, 3, 0, 0),
  some (.invokevirtual 50, 3, 0, 0, 20, 2, 1), none, none, some (.iload_n 1, 1, 0, 0, 1, 0, 0), some (.ineg, 1, 0, 0, 0, 0, 0), some (.istore_n 1, 1, 0, 0, 1, 0, 0),
  some (.iload_n 1, 1, 0, 0, 1, 0, 0), some (.aload_n 0, 1, 0, 0, 0, 0, 0), some (.getfield 19, 3, 0, 0, 1, 3, 0), none, none, some (.iload_n 2, 1, 0, 0, 2, 0, 0),
  some (.bipush 6, 2, 6, 0, 0, 0, 0), none, some (.imul, 1, 0, 0, 0, 0, 0), some (.iload_n 2, 1, 0, 0, 2, 0, 0), some (.iadd, 1, 0, 0, 0, 0, 0), some (.iaload, 1, 0, 0, 0, 0, 0),
  some (.imul, 1, 0, 0, 0, 0, 0), some (.aload_n 0, 1, 0, 0, 0, 0, 0), some (.getfield 9, 3, 0, 0, 1, 0, 0), none, none, some (.invokestatic 25, 3, 0, 0, 104, 2, 0),
  none, none, some (.istore_n 1, 1, 0, 0, 1, 0, 0), some (.aload_n 0, 1, 0, 0, 0, 0, 0), some (.iload_n 2, 1, 0, 0, 2, 0, 0), some (.invokevirtual 54, 3, 0, 0, 21, 1, 1),
  none, none, some (.iinc 2 1, 3, 1, 0, 2, 0, 0), none, none, some (.goto (-64), 3, 0, 0, 73, 0, 0),
  none, none, some (.iload_n 1, 1, 0, 0, 1, 0, 0), some (.ireturn, 1, 0, 0, 0, 0, 0)])
def zt_O_pivotRow : zm_M := (⟨"QuadricFlats$Form", "pivotRow", "(I)I"⟩, prog_3_method_12_code, 3, some .int, 1, false, 1, [
  some (.iload_n 1, 1, 0, 0, 1, 0, 0), some (.istore_n 2, 1, 0, 0, 2, 0, 0), some (.iload_n 2, 1, 0, 0, 2, 0, 0), some (.aload_n 0, 1, 0, 0, 0, 0, 0), some (.getfield 22, 3, 0, 0, 1, 1, 0), none,
  none, some (.if_icmp .ge 25, 3, 0, 0, 32, 0, 0), none, none, some (.aload_n 0, 1, 0, 0, 0, 0, 0), some (.getfield 19, 3, 0, 0, 1, 3, 0),
  none, none, some (.iload_n 2, 1, 0, 0, 2, 0, 0), some (.bipush 6, 2, 6, 0, 0, 0, 0), none, some (.imul, 1, 0, 0, 0, 0, 0),
  some (.iload_n 1, 1, 0, 0, 1, 0, 0), some (.iadd, 1, 0, 0, 0, 0, 0), some (.iaload, 1, 0, 0, 0, 0, 0), some (.ifCond .eq 5, 3, 0, 0, 26, 0, 0), none, none,
  some (.iload_n 2, 1, 0, 0, 2, 0, 0), some (.ireturn, 1, 0, 0, 0, 0, 0), some (.iinc 2 1, 3, 1, 0, 2, 0, 0), none, none, some (.goto (-27), 3, 0, 0, 2, 0, 0),
  none, none, some (.iconst (-1), 1, (-1), 0, 0, 0, 0), some (.ireturn, 1, 0, 0, 0, 0, 0)])
def zt_O_exchangeRows : zm_M := (⟨"QuadricFlats$Form", "exchangeRows", "(II)V"⟩, prog_3_method_13_code, 5, none, 2, false, 1, [
  some (.iconst 0, 1, 0, 0, 0, 0, 0), some (.istore_n 3, 1, 0, 0, 3, 0, 0), some (.iload_n 3, 1, 0, 0, 3, 0, 0), some (.aload_n 0, 1, 0, 0, 0, 0, 0), some (.getfield 22, 3, 0, 0, 1, 1, 0), none,
  none, some (.if_icmp .ge 57, 3, 0, 0, 64, 0, 0), none, none, some (.aload_n 0, 1, 0, 0, 0, 0, 0), some (.getfield 19, 3, 0, 0, 1, 3, 0),
  none, none, some (.iload_n 1, 1, 0, 0, 1, 0, 0), some (.bipush 6, 2, 6, 0, 0, 0, 0), none, some (.imul, 1, 0, 0, 0, 0, 0),
  some (.iload_n 3, 1, 0, 0, 3, 0, 0), some (.iadd, 1, 0, 0, 0, 0, 0), some (.iaload, 1, 0, 0, 0, 0, 0), some (.istore 4, 2, 0, 0, 4, 0, 0), none, some (.aload_n 0, 1, 0, 0, 0, 0, 0),
  some (.getfield 19, 3, 0, 0, 1, 3, 0), none, none, some (.iload_n 1, 1, 0, 0, 1, 0, 0), some (.bipush 6, 2, 6, 0, 0, 0, 0), none,
  some (.imul, 1, 0, 0, 0, 0, 0), some (.iload_n 3, 1, 0, 0, 3, 0, 0), some (.iadd, 1, 0, 0, 0, 0, 0), some (.aload_n 0, 1, 0, 0, 0, 0, 0), some (.getfield 19, 3, 0, 0, 1, 3, 0), none,
  none, some (.iload_n 2, 1, 0, 0, 2, 0, 0), some (.bipush 6, 2, 6, 0, 0, 0, 0), none, some (.imul, 1, 0, 0, 0, 0, 0), some (.iload_n 3, 1, 0, 0, 3, 0, 0),
  some (.iadd, 1, 0, 0, 0, 0, 0), some (.iaload, 1, 0, 0, 0, 0, 0), some (.iastore, 1, 0, 0, 0, 0, 0), some (.aload_n 0, 1, 0, 0, 0, 0, 0), some (.getfield 19, 3, 0, 0, 1, 3, 0), none,
  none, some (.iload_n 2, 1, 0, 0, 2, 0, 0), some (.bipush 6, 2, 6, 0, 0, 0, 0), none, some (.imul, 1, 0, 0, 0, 0, 0), some (.iload_n 3, 1, 0, 0, 3, 0, 0),
  some (.iadd, 1, 0, 0, 0, 0, 0), some (.iload 4, 2, 0, 0, 4, 0, 0), none, some (.iastore, 1, 0, 0, 0, 0, 0), some (.iinc 3 1, 3, 1, 0, 3, 0, 0), none,
  none, some (.goto (-59), 3, 0, 0, 2, 0, 0), none, none, some (.return_, 1, 0, 0, 0, 0, 0)])
def zt_O_clearBelow : zm_M := (⟨"QuadricFlats$Form", "clearBelow", "(I)V"⟩, prog_3_method_14_code, 8, none, 1, false, 1, [
  some (.iload_n 1, 1, 0, 0, 1, 0, 0), some (.bipush 6, 2, 6, 0, 0, 0, 0), none, some (.imul, 1, 0, 0, 0, 0, 0), some (.istore_n 2, 1, 0, 0, 2, 0, 0), some (.aload_n 0, 1, 0, 0, 0, 0, 0),
  some (.getfield 19, 3, 0, 0, 1, 3, 0), none, none, some (.iload_n 2, 1, 0, 0, 2, 0, 0), some (.iload_n 1, 1, 0, 0, 1, 0, 0), some (.iadd, 1, 0, 0, 0, 0, 0),
  some (.iaload, 1, 0, 0, 0, 0, 0), some (.aload_n 0, 1, 0, 0, 0, 0, 0), some (.getfield 9, 3, 0, 0, 1, 0, 0), none, none, some (.invokestatic 58, 3, 0, 0, 105, 2, 0),
  none, none, some (.istore_n 3, 1, 0, 0, 3, 0, 0), some (.iload_n 1, 1, 0, 0, 1, 0, 0), some (.iconst 1, 1, 1, 0, 0, 0, 0), some (.iadd, 1, 0, 0, 0, 0, 0),
  some (.istore 4, 2, 0, 0, 4, 0, 0), none, some (.iload 4, 2, 0, 0, 4, 0, 0), none, some (.aload_n 0, 1, 0, 0, 0, 0, 0), some (.getfield 22, 3, 0, 0, 1, 1, 0),
  none, none, some (.if_icmp .ge 87, 3, 0, 0, 119, 0, 0), none, none, some (.iload 4, 2, 0, 0, 4, 0, 0),
  none, some (.bipush 6, 2, 6, 0, 0, 0, 0), none, some (.imul, 1, 0, 0, 0, 0, 0), some (.istore 5, 2, 0, 0, 5, 0, 0), none,
  some (.aload_n 0, 1, 0, 0, 0, 0, 0), some (.getfield 19, 3, 0, 0, 1, 3, 0), none, none, some (.iload 5, 2, 0, 0, 5, 0, 0), none,
  some (.iload_n 1, 1, 0, 0, 1, 0, 0), some (.iadd, 1, 0, 0, 0, 0, 0), some (.iaload, 1, 0, 0, 0, 0, 0), some (.iload_n 3, 1, 0, 0, 3, 0, 0), some (.imul, 1, 0, 0, 0, 0, 0), some (.istore 6, 2, 0, 0, 6, 0, 0),
  none, some (.iload_n 1, 1, 0, 0, 1, 0, 0), some (.istore 7, 2, 0, 0, 7, 0, 0), none, some (.iload 7, 2, 0, 0, 7, 0, 0), none,
  some (.aload_n 0, 1, 0, 0, 0, 0, 0), some (.getfield 22, 3, 0, 0, 1, 1, 0), none, none, some (.if_icmp .ge 49, 3, 0, 0, 113, 0, 0), none,
  none, some (.aload_n 0, 1, 0, 0, 0, 0, 0), some (.getfield 19, 3, 0, 0, 1, 3, 0), none, none, some (.iload 5, 2, 0, 0, 5, 0, 0),
  none, some (.iload 7, 2, 0, 0, 7, 0, 0), none, some (.iadd, 1, 0, 0, 0, 0, 0), some (.aload_n 0, 1, 0, 0, 0, 0, 0), some (.getfield 19, 3, 0, 0, 1, 3, 0),
  none, none, some (.iload 5, 2, 0, 0, 5, 0, 0), none, some (.iload 7, 2, 0, 0, 7, 0, 0), none,
  some (.iadd, 1, 0, 0, 0, 0, 0), some (.iaload, 1, 0, 0, 0, 0, 0), some (.iload 6, 2, 0, 0, 6, 0, 0), none, some (.aload_n 0, 1, 0, 0, 0, 0, 0), some (.getfield 19, 3, 0, 0, 1, 3, 0),
  none, none, some (.iload_n 2, 1, 0, 0, 2, 0, 0), some (.iload 7, 2, 0, 0, 7, 0, 0), none, some (.iadd, 1, 0, 0, 0, 0, 0),
  some (.iaload, 1, 0, 0, 0, 0, 0), some (.imul, 1, 0, 0, 0, 0, 0), some (.isub, 1, 0, 0, 0, 0, 0), some (.aload_n 0, 1, 0, 0, 0, 0, 0), some (.getfield 9, 3, 0, 0, 1, 0, 0), none,
  none, some (.invokestatic 25, 3, 0, 0, 104, 2, 0), none, none, some (.iastore, 1, 0, 0, 0, 0, 0), some (.iinc 7 1, 3, 1, 0, 7, 0, 0),
  none, none, some (.goto (-52), 3, 0, 0, 58, 0, 0), none, none, some (.iinc 4 1, 3, 1, 0, 4, 0, 0),
  none, none, some (.goto (-90), 3, 0, 0, 26, 0, 0), none, none, some (.return_, 1, 0, 0, 0, 0, 0)])
def zt_P_append : zm_M := (⟨"QuadricFlats$Page", "append", "(I)V"⟩, prog_4_method_2_code, 2, none, 1, false, 2, [
  some (.aload_n 0, 1, 0, 0, 0, 0, 0), some (.getfield 15, 3, 0, 0, 2, 1, 0), none, none, some (.bipush 28, 2, 28, 0, 0, 0, 0), none,
  some (.if_icmp .ge 23, 3, 0, 0, 29, 0, 0), none, none, some (.aload_n 0, 1, 0, 0, 0, 0, 0), some (.getfield 9, 3, 0, 0, 2, 0, 0), none,
  none, some (.aload_n 0, 1, 0, 0, 0, 0, 0), some (.getfield 15, 3, 0, 0, 2, 1, 0), none, none, some (.iload_n 1, 1, 0, 0, 1, 0, 0),
  some (.iastore, 1, 0, 0, 0, 0, 0), some (.aload_n 0, 1, 0, 0, 0, 0, 0), some (.dup, 1, 0, 0, 0, 0, 0), some (.getfield 15, 3, 0, 0, 2, 1, 0), none, none,
  some (.iconst 1, 1, 1, 0, 0, 0, 0), some (.iadd, 1, 0, 0, 0, 0, 0), some (.putfield 15, 3, 0, 0, 2, 1, 0), none, none, some (.return_, 1, 0, 0, 0, 0, 0)])
def zt_P_firstWrong : zm_M := (⟨"QuadricFlats$Page", "firstWrong", "()I"⟩, prog_4_method_3_code, 2, some .int, 0, false, 2, [
  some (.aload_n 0, 1, 0, 0, 0, 0, 0), some (.iconst 0, 1, 0, 0, 0, 0, 0), some (.putfield 19, 3, 0, 0, 2, 4, 0), none, none, some (.aload_n 0, 1, 0, 0, 0, 0, 0),
  some (.iconst 0, 1, 0, 0, 0, 0, 0), some (.putfield 22, 3, 0, 0, 2, 5, 0), none, none, some (.iconst 0, 1, 0, 0, 0, 0, 0), some (.istore_n 1, 1, 0, 0, 1, 0, 0),
  some (.iload_n 1, 1, 0, 0, 1, 0, 0), some (.aload_n 0, 1, 0, 0, 0, 0, 0), some (.getfield 15, 3, 0, 0, 2, 1, 0), none, none, some (.if_icmp .ge 25, 3, 0, 0, 42, 0, 0),
  none, none, some (.aload_n 0, 1, 0, 0, 0, 0, 0), some (.iload_n 1, 1, 0, 0, 1, 0, 0), some (.aload_n 0, 1, 0, 0, 0, 0, 0), some (.getfield 9, 3, 0, 0, 2, 0, 0),
  none, none, some (.iload_n 1, 1, 0, 0, 1, 0, 0), some (.iaload, 1, 0, 0, 0, 0, 0), some (.invokevirtual 25, 3, 0, 0, 25, 2, 2), none,
  none, some (.ifCond .ne 5, 3, 0, 0, 36, 0, 0), none, none, some (.iload_n 1, 1, 0, 0, 1, 0, 0), some (.ireturn, 1, 0, 0, 0, 0, 0),
  some (.iinc 1 1, 3, 1, 0, 1, 0, 0), none, none, some (.goto (-27), 3, 0, 0, 12, 0, 0), none, none,
  some (.aload_n 0, 1, 0, 0, 0, 0, 0), some (.getfield 15, 3, 0, 0, 2, 1, 0), none, none, some (.ireturn, 1, 0, 0, 0, 0, 0)])
def zt_P_isText : zm_M := (⟨"QuadricFlats$Page", "isText", "()Z"⟩, prog_4_method_4_code, 1, some .boolean, 0, false, 2, [
  some (.aload_n 0, 1, 0, 0, 0, 0, 0), some (.invokevirtual 29, 3, 0, 0, 23, 0, 2), none, none, some (.aload_n 0, 1, 0, 0, 0, 0, 0), some (.getfield 15, 3, 0, 0, 2, 1, 0),
  none, none, some (.if_icmp .ne 35, 3, 0, 0, 43, 0, 0), none, none, some (.aload_n 0, 1, 0, 0, 0, 0, 0),
  some (.getfield 19, 3, 0, 0, 2, 4, 0), none, none, some (.ifCond .le 28, 3, 0, 0, 43, 0, 0), none, none,
  some (.aload_n 0, 1, 0, 0, 0, 0, 0), some (.getfield 19, 3, 0, 0, 2, 4, 0), none, none, some (.aload_n 0, 1, 0, 0, 0, 0, 0), some (.getfield 33, 3, 0, 0, 2, 3, 0),
  none, none, some (.iconst 1, 1, 1, 0, 0, 0, 0), some (.isub, 1, 0, 0, 0, 0, 0), some (.if_icmp .ne 15, 3, 0, 0, 43, 0, 0), none,
  none, some (.aload_n 0, 1, 0, 0, 0, 0, 0), some (.getfield 22, 3, 0, 0, 2, 5, 0), none, none, some (.iconst 1, 1, 1, 0, 0, 0, 0),
  some (.if_icmp .ne 7, 3, 0, 0, 43, 0, 0), none, none, some (.iconst 1, 1, 1, 0, 0, 0, 0), some (.goto 4, 3, 0, 0, 44, 0, 0), none,
  none, some (.iconst 0, 1, 0, 0, 0, 0, 0), some (.ireturn, 1, 0, 0, 0, 0, 0)])
def zt_P_accepts : zm_M := (⟨"QuadricFlats$Page", "accepts", "(II)Z"⟩, prog_4_method_5_code, 3, some .boolean, 2, false, 2, [
  some (.iload_n 1, 1, 0, 0, 1, 0, 0), some (.ifCond .ne 32, 3, 0, 0, 33, 0, 0), none, none, some (.aload_n 0, 1, 0, 0, 0, 0, 0), some (.iload_n 2, 1, 0, 0, 2, 0, 0),
  some (.bipush 48, 2, 48, 0, 0, 0, 0), none, some (.isub, 1, 0, 0, 0, 0, 0), some (.putfield 36, 3, 0, 0, 2, 2, 0), none, none,
  some (.aload_n 0, 1, 0, 0, 0, 0, 0), some (.aload_n 0, 1, 0, 0, 0, 0, 0), some (.invokevirtual 39, 3, 0, 0, 26, 0, 2), none, none, some (.putfield 33, 3, 0, 0, 2, 3, 0),
  none, none, some (.aload_n 0, 1, 0, 0, 0, 0, 0), some (.getfield 33, 3, 0, 0, 2, 3, 0), none, none,
  some (.ifCond .le 7, 3, 0, 0, 31, 0, 0), none, none, some (.iconst 1, 1, 1, 0, 0, 0, 0), some (.goto 4, 3, 0, 0, 32, 0, 0), none,
  none, some (.iconst 0, 1, 0, 0, 0, 0, 0), some (.ireturn, 1, 0, 0, 0, 0, 0), some (.iload_n 1, 1, 0, 0, 1, 0, 0), some (.iconst 1, 1, 1, 0, 0, 0, 0), some (.if_icmp .ne 15, 3, 0, 0, 50, 0, 0),
  none, none, some (.iload_n 2, 1, 0, 0, 2, 0, 0), some (.bipush 58, 2, 58, 0, 0, 0, 0), none, some (.if_icmp .ne 7, 3, 0, 0, 48, 0, 0),
  none, none, some (.iconst 1, 1, 1, 0, 0, 0, 0), some (.goto 4, 3, 0, 0, 49, 0, 0), none, none,
  some (.iconst 0, 1, 0, 0, 0, 0, 0), some (.ireturn, 1, 0, 0, 0, 0, 0), some (.iload_n 2, 1, 0, 0, 2, 0, 0), some (.bipush 47, 2, 47, 0, 0, 0, 0), none, some (.if_icmp .ne 10, 3, 0, 0, 63, 0, 0),
  none, none, some (.aload_n 0, 1, 0, 0, 0, 0, 0), some (.invokevirtual 42, 3, 0, 0, 27, 0, 2), none, none,
  some (.goto 11, 3, 0, 0, 71, 0, 0), none, none, some (.aload_n 0, 1, 0, 0, 0, 0, 0), some (.iload_n 2, 1, 0, 0, 2, 0, 0), some (.bipush 48, 2, 48, 0, 0, 0, 0),
  none, some (.isub, 1, 0, 0, 0, 0, 0), some (.invokevirtual 46, 3, 0, 0, 28, 1, 2), none, none, some (.ireturn, 1, 0, 0, 0, 0, 0)])
def zt_P_mostVariables : zm_M := (⟨"QuadricFlats$Page", "mostVariables", "()I"⟩, prog_4_method_6_code, 1, some .int, 0, false, 2, [
  some (.aload_n 0, 1, 0, 0, 0, 0, 0), some (.getfield 36, 3, 0, 0, 2, 2, 0), none, none, some (.tableswitch 39 2 5 #[32, 35, 39, 37], 32, 0, 0, 0, 0, 0), none,
  none, none, none, none, none, none,
  none, none, none, none, none, none,
  none, none, none, none, none, none,
  none, none, none, none, none, none,
  none, none, none, none, none, none,
  some (.bipush 6, 2, 6, 0, 0, 0, 0), none, some (.ireturn, 1, 0, 0, 0, 0, 0), some (.iconst 5, 1, 5, 0, 0, 0, 0), some (.ireturn, 1, 0, 0, 0, 0, 0), some (.iconst 4, 1, 4, 0, 0, 0, 0),
  some (.ireturn, 1, 0, 0, 0, 0, 0), some (.iconst 0, 1, 0, 0, 0, 0, 0), some (.ireturn, 1, 0, 0, 0, 0, 0)])
def zt_P_endsRow : zm_M := (⟨"QuadricFlats$Page", "endsRow", "()Z"⟩, prog_4_method_7_code, 1, some .boolean, 0, false, 2, [
  some (.aload_n 0, 1, 0, 0, 0, 0, 0), some (.getfield 19, 3, 0, 0, 2, 4, 0), none, none, some (.ifCond .ne 19, 3, 0, 0, 23, 0, 0), none,
  none, some (.aload_n 0, 1, 0, 0, 0, 0, 0), some (.getfield 22, 3, 0, 0, 2, 5, 0), none, none, some (.iconst 3, 1, 3, 0, 0, 0, 0),
  some (.if_icmp .lt 11, 3, 0, 0, 23, 0, 0), none, none, some (.aload_n 0, 1, 0, 0, 0, 0, 0), some (.aload_n 0, 1, 0, 0, 0, 0, 0), some (.getfield 22, 3, 0, 0, 2, 5, 0),
  none, none, some (.putfield 33, 3, 0, 0, 2, 3, 0), none, none, some (.aload_n 0, 1, 0, 0, 0, 0, 0),
  some (.getfield 22, 3, 0, 0, 2, 5, 0), none, none, some (.aload_n 0, 1, 0, 0, 0, 0, 0), some (.getfield 33, 3, 0, 0, 2, 3, 0), none,
  none, some (.aload_n 0, 1, 0, 0, 0, 0, 0), some (.getfield 19, 3, 0, 0, 2, 4, 0), none, none, some (.isub, 1, 0, 0, 0, 0, 0),
  some (.if_icmp .lt 16, 3, 0, 0, 52, 0, 0), none, none, some (.aload_n 0, 1, 0, 0, 0, 0, 0), some (.getfield 19, 3, 0, 0, 2, 4, 0), none,
  none, some (.aload_n 0, 1, 0, 0, 0, 0, 0), some (.getfield 33, 3, 0, 0, 2, 3, 0), none, none, some (.iconst 1, 1, 1, 0, 0, 0, 0),
  some (.isub, 1, 0, 0, 0, 0, 0), some (.if_icmp .lt 5, 3, 0, 0, 54, 0, 0), none, none, some (.iconst 0, 1, 0, 0, 0, 0, 0), some (.ireturn, 1, 0, 0, 0, 0, 0),
  some (.aload_n 0, 1, 0, 0, 0, 0, 0), some (.dup, 1, 0, 0, 0, 0, 0), some (.getfield 19, 3, 0, 0, 2, 4, 0), none, none, some (.iconst 1, 1, 1, 0, 0, 0, 0),
  some (.iadd, 1, 0, 0, 0, 0, 0), some (.putfield 19, 3, 0, 0, 2, 4, 0), none, none, some (.aload_n 0, 1, 0, 0, 0, 0, 0), some (.iconst 0, 1, 0, 0, 0, 0, 0),
  some (.putfield 22, 3, 0, 0, 2, 5, 0), none, none, some (.iconst 1, 1, 1, 0, 0, 0, 0), some (.ireturn, 1, 0, 0, 0, 0, 0)])
def zt_P_addsDigit : zm_M := (⟨"QuadricFlats$Page", "addsDigit", "(I)Z"⟩, prog_4_method_8_code, 2, some .boolean, 1, false, 2, [
  some (.iload_n 1, 1, 0, 0, 1, 0, 0), some (.ifCond .lt 27, 3, 0, 0, 28, 0, 0), none, none, some (.iload_n 1, 1, 0, 0, 1, 0, 0), some (.aload_n 0, 1, 0, 0, 0, 0, 0),
  some (.getfield 36, 3, 0, 0, 2, 2, 0), none, none, some (.if_icmp .ge 19, 3, 0, 0, 28, 0, 0), none, none,
  some (.aload_n 0, 1, 0, 0, 0, 0, 0), some (.getfield 22, 3, 0, 0, 2, 5, 0), none, none, some (.aload_n 0, 1, 0, 0, 0, 0, 0), some (.getfield 33, 3, 0, 0, 2, 3, 0),
  none, none, some (.aload_n 0, 1, 0, 0, 0, 0, 0), some (.getfield 19, 3, 0, 0, 2, 4, 0), none, none,
  some (.isub, 1, 0, 0, 0, 0, 0), some (.if_icmp .lt 5, 3, 0, 0, 30, 0, 0), none, none, some (.iconst 0, 1, 0, 0, 0, 0, 0), some (.ireturn, 1, 0, 0, 0, 0, 0),
  some (.aload_n 0, 1, 0, 0, 0, 0, 0), some (.dup, 1, 0, 0, 0, 0, 0), some (.getfield 22, 3, 0, 0, 2, 5, 0), none, none, some (.iconst 1, 1, 1, 0, 0, 0, 0),
  some (.iadd, 1, 0, 0, 0, 0, 0), some (.putfield 22, 3, 0, 0, 2, 5, 0), none, none, some (.iconst 1, 1, 1, 0, 0, 0, 0), some (.ireturn, 1, 0, 0, 0, 0, 0)])
def zt_P_copyTo : zm_M := (⟨"QuadricFlats$Page", "copyTo", "(LQuadricFlats$Form;)V"⟩, prog_4_method_9_code, 5, none, 1, false, 2, [
  some (.aload_n 1, 1, 0, 0, 1, 0, 0), some (.aload_n 0, 1, 0, 0, 0, 0, 0), some (.getfield 36, 3, 0, 0, 2, 2, 0), none, none, some (.putfield 50, 3, 0, 0, 1, 0, 0),
  none, none, some (.aload_n 1, 1, 0, 0, 1, 0, 0), some (.aload_n 0, 1, 0, 0, 0, 0, 0), some (.getfield 33, 3, 0, 0, 2, 3, 0), none,
  none, some (.putfield 53, 3, 0, 0, 1, 1, 0), none, none, some (.iconst 2, 1, 2, 0, 0, 0, 0), some (.istore_n 2, 1, 0, 0, 2, 0, 0),
  some (.iconst 0, 1, 0, 0, 0, 0, 0), some (.istore_n 3, 1, 0, 0, 3, 0, 0), some (.iload_n 3, 1, 0, 0, 3, 0, 0), some (.aload_n 0, 1, 0, 0, 0, 0, 0), some (.getfield 33, 3, 0, 0, 2, 3, 0), none,
  none, some (.if_icmp .ge 57, 3, 0, 0, 82, 0, 0), none, none, some (.iload_n 3, 1, 0, 0, 3, 0, 0), some (.istore 4, 2, 0, 0, 4, 0, 0),
  none, some (.iload 4, 2, 0, 0, 4, 0, 0), none, some (.aload_n 0, 1, 0, 0, 0, 0, 0), some (.getfield 33, 3, 0, 0, 2, 3, 0), none,
  none, some (.if_icmp .ge 36, 3, 0, 0, 73, 0, 0), none, none, some (.iload_n 2, 1, 0, 0, 2, 0, 0), some (.aload_n 0, 1, 0, 0, 0, 0, 0),
  some (.getfield 15, 3, 0, 0, 2, 1, 0), none, none, some (.if_icmp .ge 19, 3, 0, 0, 64, 0, 0), none, none,
  some (.aload_n 1, 1, 0, 0, 1, 0, 0), some (.iload_n 3, 1, 0, 0, 3, 0, 0), some (.iload 4, 2, 0, 0, 4, 0, 0), none, some (.aload_n 0, 1, 0, 0, 0, 0, 0), some (.getfield 9, 3, 0, 0, 2, 0, 0),
  none, none, some (.iload_n 2, 1, 0, 0, 2, 0, 0), some (.iaload, 1, 0, 0, 0, 0, 0), some (.bipush 48, 2, 48, 0, 0, 0, 0), none,
  some (.isub, 1, 0, 0, 0, 0, 0), some (.invokevirtual 56, 3, 0, 0, 11, 3, 1), none, none, some (.iinc 2 1, 3, 1, 0, 2, 0, 0), none,
  none, some (.iinc 4 1, 3, 1, 0, 4, 0, 0), none, none, some (.goto (-39), 3, 0, 0, 31, 0, 0), none,
  none, some (.iinc 2 1, 3, 1, 0, 2, 0, 0), none, none, some (.iinc 3 1, 3, 1, 0, 3, 0, 0), none,
  none, some (.goto (-59), 3, 0, 0, 20, 0, 0), none, none, some (.return_, 1, 0, 0, 0, 0, 0)])
def zt_Q_layPoints : zm_M := (⟨"QuadricFlats$Quadric", "layPoints", "(LQuadricFlats$Form;)V"⟩, prog_5_method_2_code, 4, none, 1, false, 3, [
  some (.aload_n 1, 1, 0, 0, 1, 0, 0), some (.getfield 34, 3, 0, 0, 1, 0, 0), none, none, some (.aload_n 0, 1, 0, 0, 0, 0, 0), some (.getfield 9, 3, 0, 0, 3, 0, 0),
  none, none, some (.if_icmp .ne 15, 3, 0, 0, 23, 0, 0), none, none, some (.aload_n 1, 1, 0, 0, 1, 0, 0),
  some (.getfield 37, 3, 0, 0, 1, 1, 0), none, none, some (.aload_n 0, 1, 0, 0, 0, 0, 0), some (.getfield 40, 3, 0, 0, 3, 1, 0), none,
  none, some (.if_icmp .ne 4, 3, 0, 0, 23, 0, 0), none, none, some (.return_, 1, 0, 0, 0, 0, 0), some (.aload_n 0, 1, 0, 0, 0, 0, 0),
  some (.aload_n 1, 1, 0, 0, 1, 0, 0), some (.getfield 34, 3, 0, 0, 1, 0, 0), none, none, some (.putfield 9, 3, 0, 0, 3, 0, 0), none,
  none, some (.aload_n 0, 1, 0, 0, 0, 0, 0), some (.aload_n 1, 1, 0, 0, 1, 0, 0), some (.getfield 37, 3, 0, 0, 1, 1, 0), none, none,
  some (.putfield 40, 3, 0, 0, 3, 1, 0), none, none, some (.iconst 0, 1, 0, 0, 0, 0, 0), some (.istore_n 2, 1, 0, 0, 2, 0, 0), some (.iconst 0, 1, 0, 0, 0, 0, 0),
  some (.istore_n 3, 1, 0, 0, 3, 0, 0), some (.iload_n 3, 1, 0, 0, 3, 0, 0), some (.aload_n 0, 1, 0, 0, 0, 0, 0), some (.getfield 40, 3, 0, 0, 3, 1, 0), none, none,
  some (.if_icmp .ge 18, 3, 0, 0, 66, 0, 0), none, none, some (.iload_n 2, 1, 0, 0, 2, 0, 0), some (.aload_n 0, 1, 0, 0, 0, 0, 0), some (.getfield 9, 3, 0, 0, 3, 0, 0),
  none, none, some (.imul, 1, 0, 0, 0, 0, 0), some (.iconst 1, 1, 1, 0, 0, 0, 0), some (.iadd, 1, 0, 0, 0, 0, 0), some (.istore_n 2, 1, 0, 0, 2, 0, 0),
  some (.iinc 3 1, 3, 1, 0, 3, 0, 0), none, none, some (.goto (-20), 3, 0, 0, 43, 0, 0), none, none,
  some (.aload_n 0, 1, 0, 0, 0, 0, 0), some (.iload_n 2, 1, 0, 0, 2, 0, 0), some (.sipush 156, 3, 156, 0, 0, 0, 0), none, none, some (.invokestatic 41, 3, 0, 0, 0, 0, 98),
  none, none, some (.putfield 47, 3, 0, 0, 3, 2, 0), none, none, some (.iconst 0, 1, 0, 0, 0, 0, 0),
  some (.istore_n 3, 1, 0, 0, 3, 0, 0), some (.iload_n 3, 1, 0, 0, 3, 0, 0), some (.aload_n 0, 1, 0, 0, 0, 0, 0), some (.getfield 47, 3, 0, 0, 3, 2, 0), none, none,
  some (.if_icmp .ge 14, 3, 0, 0, 98, 0, 0), none, none, some (.aload_n 0, 1, 0, 0, 0, 0, 0), some (.iload_n 3, 1, 0, 0, 3, 0, 0), some (.invokevirtual 50, 3, 0, 0, 31, 1, 3),
  none, none, some (.iinc 3 1, 3, 1, 0, 3, 0, 0), none, none, some (.goto (-16), 3, 0, 0, 79, 0, 0),
  none, none, some (.return_, 1, 0, 0, 0, 0, 0)])
def zt_Q_layPoint : zm_M := (⟨"QuadricFlats$Quadric", "layPoint", "(I)V"⟩, prog_5_method_3_code, 6, none, 1, false, 3, [
  some (.iload_n 1, 1, 0, 0, 1, 0, 0), some (.istore_n 2, 1, 0, 0, 2, 0, 0), some (.iconst 0, 1, 0, 0, 0, 0, 0), some (.istore_n 3, 1, 0, 0, 3, 0, 0), some (.aload_n 0, 1, 0, 0, 0, 0, 0), some (.getfield 40, 3, 0, 0, 3, 1, 0),
  none, none, some (.iconst 1, 1, 1, 0, 0, 0, 0), some (.isub, 1, 0, 0, 0, 0, 0), some (.istore 4, 2, 0, 0, 4, 0, 0), none,
  some (.iload 4, 2, 0, 0, 4, 0, 0), none, some (.ifCond .lt 75, 3, 0, 0, 89, 0, 0), none, none, some (.iload_n 3, 1, 0, 0, 3, 0, 0),
  some (.ifCond .eq 7, 3, 0, 0, 25, 0, 0), none, none, some (.iconst 0, 1, 0, 0, 0, 0, 0), some (.goto 4, 3, 0, 0, 26, 0, 0), none,
  none, some (.iconst 1, 1, 1, 0, 0, 0, 0), some (.istore 5, 2, 0, 0, 5, 0, 0), none, some (.iload_n 2, 1, 0, 0, 2, 0, 0), some (.ifCond .le 38, 3, 0, 0, 67, 0, 0),
  none, none, some (.iload_n 2, 1, 0, 0, 2, 0, 0), some (.iconst 1, 1, 1, 0, 0, 0, 0), some (.isub, 1, 0, 0, 0, 0, 0), some (.aload_n 0, 1, 0, 0, 0, 0, 0),
  some (.getfield 9, 3, 0, 0, 3, 0, 0), none, none, some (.invokestatic 54, 3, 0, 0, 104, 2, 0), none, none,
  some (.istore 5, 2, 0, 0, 5, 0, 0), none, some (.aload_n 0, 1, 0, 0, 0, 0, 0), some (.getfield 9, 3, 0, 0, 3, 0, 0), none, none,
  some (.ifCond .le 14, 3, 0, 0, 62, 0, 0), none, none, some (.iload_n 2, 1, 0, 0, 2, 0, 0), some (.iconst 1, 1, 1, 0, 0, 0, 0), some (.isub, 1, 0, 0, 0, 0, 0),
  some (.aload_n 0, 1, 0, 0, 0, 0, 0), some (.getfield 9, 3, 0, 0, 3, 0, 0), none, none, some (.idiv, 1, 0, 0, 0, 0, 0), some (.goto 4, 3, 0, 0, 63, 0, 0),
  none, none, some (.iconst 0, 1, 0, 0, 0, 0, 0), some (.istore_n 2, 1, 0, 0, 2, 0, 0), some (.goto 5, 3, 0, 0, 69, 0, 0), none,
  none, some (.iconst 1, 1, 1, 0, 0, 0, 0), some (.istore_n 3, 1, 0, 0, 3, 0, 0), some (.aload_n 0, 1, 0, 0, 0, 0, 0), some (.getfield 15, 3, 0, 0, 3, 3, 0), none,
  none, some (.iload_n 1, 1, 0, 0, 1, 0, 0), some (.bipush 6, 2, 6, 0, 0, 0, 0), none, some (.imul, 1, 0, 0, 0, 0, 0), some (.iload 4, 2, 0, 0, 4, 0, 0),
  none, some (.iadd, 1, 0, 0, 0, 0, 0), some (.iload 5, 2, 0, 0, 5, 0, 0), none, some (.iastore, 1, 0, 0, 0, 0, 0), some (.iinc 4 (-1), 3, (-1), 0, 4, 0, 0),
  none, none, some (.goto (-74), 3, 0, 0, 12, 0, 0), none, none, some (.return_, 1, 0, 0, 0, 0, 0)])
def zt_Q_vectorPoint : zm_M := (⟨"QuadricFlats$Quadric", "vectorPoint", "()I"⟩, prog_5_method_4_code, 4, some .int, 0, false, 3, [
  some (.iconst 0, 1, 0, 0, 0, 0, 0), some (.istore_n 1, 1, 0, 0, 1, 0, 0), some (.iconst 0, 1, 0, 0, 0, 0, 0), some (.istore_n 2, 1, 0, 0, 2, 0, 0), some (.iconst 0, 1, 0, 0, 0, 0, 0), some (.istore_n 3, 1, 0, 0, 3, 0, 0),
  some (.iload_n 3, 1, 0, 0, 3, 0, 0), some (.aload_n 0, 1, 0, 0, 0, 0, 0), some (.getfield 40, 3, 0, 0, 3, 1, 0), none, none, some (.if_icmp .ge 55, 3, 0, 0, 66, 0, 0),
  none, none, some (.iload_n 1, 1, 0, 0, 1, 0, 0), some (.ifCond .ne 20, 3, 0, 0, 35, 0, 0), none, none,
  some (.aload_n 0, 1, 0, 0, 0, 0, 0), some (.getfield 31, 3, 0, 0, 3, 10, 0), none, none, some (.iload_n 3, 1, 0, 0, 3, 0, 0), some (.iaload, 1, 0, 0, 0, 0, 0),
  some (.aload_n 0, 1, 0, 0, 0, 0, 0), some (.getfield 9, 3, 0, 0, 3, 0, 0), none, none, some (.invokestatic 57, 3, 0, 0, 105, 2, 0), none,
  none, some (.istore_n 1, 1, 0, 0, 1, 0, 0), some (.goto 28, 3, 0, 0, 60, 0, 0), none, none, some (.iload_n 2, 1, 0, 0, 2, 0, 0),
  some (.aload_n 0, 1, 0, 0, 0, 0, 0), some (.getfield 9, 3, 0, 0, 3, 0, 0), none, none, some (.imul, 1, 0, 0, 0, 0, 0), some (.iload_n 1, 1, 0, 0, 1, 0, 0),
  some (.aload_n 0, 1, 0, 0, 0, 0, 0), some (.getfield 31, 3, 0, 0, 3, 10, 0), none, none, some (.iload_n 3, 1, 0, 0, 3, 0, 0), some (.iaload, 1, 0, 0, 0, 0, 0),
  some (.imul, 1, 0, 0, 0, 0, 0), some (.aload_n 0, 1, 0, 0, 0, 0, 0), some (.getfield 9, 3, 0, 0, 3, 0, 0), none, none, some (.invokestatic 54, 3, 0, 0, 104, 2, 0),
  none, none, some (.iadd, 1, 0, 0, 0, 0, 0), some (.iconst 1, 1, 1, 0, 0, 0, 0), some (.iadd, 1, 0, 0, 0, 0, 0), some (.istore_n 2, 1, 0, 0, 2, 0, 0),
  some (.iinc 3 1, 3, 1, 0, 3, 0, 0), none, none, some (.goto (-57), 3, 0, 0, 6, 0, 0), none, none,
  some (.iload_n 1, 1, 0, 0, 1, 0, 0), some (.ifCond .ne 7, 3, 0, 0, 74, 0, 0), none, none, some (.iconst (-1), 1, (-1), 0, 0, 0, 0), some (.goto 4, 3, 0, 0, 75, 0, 0),
  none, none, some (.iload_n 2, 1, 0, 0, 2, 0, 0), some (.ireturn, 1, 0, 0, 0, 0, 0)])
def zt_Q_survey : zm_M := (⟨"QuadricFlats$Quadric", "survey", "(LQuadricFlats$Form;)V"⟩, prog_5_method_5_code, 3, none, 1, false, 3, [
  some (.aload_n 0, 1, 0, 0, 0, 0, 0), some (.iconst 0, 1, 0, 0, 0, 0, 0), some (.putfield 60, 3, 0, 0, 3, 8, 0), none, none, some (.aload_n 0, 1, 0, 0, 0, 0, 0),
  some (.iconst 0, 1, 0, 0, 0, 0, 0), some (.putfield 63, 3, 0, 0, 3, 9, 0), none, none, some (.iconst 0, 1, 0, 0, 0, 0, 0), some (.istore_n 2, 1, 0, 0, 2, 0, 0),
  some (.iload_n 2, 1, 0, 0, 2, 0, 0), some (.aload_n 0, 1, 0, 0, 0, 0, 0), some (.getfield 47, 3, 0, 0, 3, 2, 0), none, none, some (.if_icmp .ge 89, 3, 0, 0, 106, 0, 0),
  none, none, some (.aload_n 0, 1, 0, 0, 0, 0, 0), some (.getfield 22, 3, 0, 0, 3, 5, 0), none, none,
  some (.iload_n 2, 1, 0, 0, 2, 0, 0), some (.aload_n 0, 1, 0, 0, 0, 0, 0), some (.aload_n 1, 1, 0, 0, 1, 0, 0), some (.iload_n 2, 1, 0, 0, 2, 0, 0), some (.invokevirtual 66, 3, 0, 0, 34, 2, 3), none,
  none, some (.iastore, 1, 0, 0, 0, 0, 0), some (.aload_n 0, 1, 0, 0, 0, 0, 0), some (.getfield 28, 3, 0, 0, 3, 7, 0), none, none,
  some (.iload_n 2, 1, 0, 0, 2, 0, 0), some (.iconst (-1), 1, (-1), 0, 0, 0, 0), some (.iastore, 1, 0, 0, 0, 0, 0), some (.aload_n 0, 1, 0, 0, 0, 0, 0), some (.getfield 22, 3, 0, 0, 3, 5, 0), none,
  none, some (.iload_n 2, 1, 0, 0, 2, 0, 0), some (.iaload, 1, 0, 0, 0, 0, 0), some (.ifCond .ne 55, 3, 0, 0, 100, 0, 0), none, none,
  some (.aload_n 0, 1, 0, 0, 0, 0, 0), some (.getfield 28, 3, 0, 0, 3, 7, 0), none, none, some (.iload_n 2, 1, 0, 0, 2, 0, 0), some (.aload_n 0, 1, 0, 0, 0, 0, 0),
  some (.getfield 60, 3, 0, 0, 3, 8, 0), none, none, some (.iastore, 1, 0, 0, 0, 0, 0), some (.aload_n 0, 1, 0, 0, 0, 0, 0), some (.getfield 25, 3, 0, 0, 3, 6, 0),
  none, none, some (.aload_n 0, 1, 0, 0, 0, 0, 0), some (.getfield 60, 3, 0, 0, 3, 8, 0), none, none,
  some (.iload_n 2, 1, 0, 0, 2, 0, 0), some (.iastore, 1, 0, 0, 0, 0, 0), some (.aload_n 0, 1, 0, 0, 0, 0, 0), some (.dup, 1, 0, 0, 0, 0, 0), some (.getfield 60, 3, 0, 0, 3, 8, 0), none,
  none, some (.iconst 1, 1, 1, 0, 0, 0, 0), some (.iadd, 1, 0, 0, 0, 0, 0), some (.putfield 60, 3, 0, 0, 3, 8, 0), none, none,
  some (.aload_n 0, 1, 0, 0, 0, 0, 0), some (.dup, 1, 0, 0, 0, 0, 0), some (.getfield 63, 3, 0, 0, 3, 9, 0), none, none, some (.aload_n 0, 1, 0, 0, 0, 0, 0),
  some (.iload_n 2, 1, 0, 0, 2, 0, 0), some (.invokevirtual 70, 3, 0, 0, 35, 1, 3), none, none, some (.ifCond .eq 7, 3, 0, 0, 95, 0, 0), none,
  none, some (.iconst 1, 1, 1, 0, 0, 0, 0), some (.goto 4, 3, 0, 0, 96, 0, 0), none, none, some (.iconst 0, 1, 0, 0, 0, 0, 0),
  some (.iadd, 1, 0, 0, 0, 0, 0), some (.putfield 63, 3, 0, 0, 3, 9, 0), none, none, some (.iinc 2 1, 3, 1, 0, 2, 0, 0), none,
  none, some (.goto (-91), 3, 0, 0, 12, 0, 0), none, none, some (.return_, 1, 0, 0, 0, 0, 0)])
def zt_Q_measure : zm_M := (⟨"QuadricFlats$Quadric", "measure", "(LQuadricFlats$Form;I)I"⟩, prog_5_method_6_code, 8, some .int, 2, false, 3, [
  some (.iload_n 2, 1, 0, 0, 2, 0, 0), some (.bipush 6, 2, 6, 0, 0, 0, 0), none, some (.imul, 1, 0, 0, 0, 0, 0), some (.istore_n 3, 1, 0, 0, 3, 0, 0), some (.iconst 0, 1, 0, 0, 0, 0, 0),
  some (.istore 4, 2, 0, 0, 4, 0, 0), none, some (.iconst 0, 1, 0, 0, 0, 0, 0), some (.istore 5, 2, 0, 0, 5, 0, 0), none, some (.iload 5, 2, 0, 0, 5, 0, 0),
  none, some (.aload_n 0, 1, 0, 0, 0, 0, 0), some (.getfield 40, 3, 0, 0, 3, 1, 0), none, none, some (.if_icmp .ge 105, 3, 0, 0, 122, 0, 0),
  none, none, some (.aload_n 1, 1, 0, 0, 1, 0, 0), some (.iload 5, 2, 0, 0, 5, 0, 0), none, some (.iload 5, 2, 0, 0, 5, 0, 0),
  none, some (.invokevirtual 74, 3, 0, 0, 10, 2, 1), none, none, some (.aload_n 0, 1, 0, 0, 0, 0, 0), some (.getfield 15, 3, 0, 0, 3, 3, 0),
  none, none, some (.iload_n 3, 1, 0, 0, 3, 0, 0), some (.iload 5, 2, 0, 0, 5, 0, 0), none, some (.iadd, 1, 0, 0, 0, 0, 0),
  some (.iaload, 1, 0, 0, 0, 0, 0), some (.imul, 1, 0, 0, 0, 0, 0), some (.istore 6, 2, 0, 0, 6, 0, 0), none, some (.iconst 0, 1, 0, 0, 0, 0, 0), some (.istore 7, 2, 0, 0, 7, 0, 0),
  none, some (.iload 7, 2, 0, 0, 7, 0, 0), none, some (.aload_n 0, 1, 0, 0, 0, 0, 0), some (.getfield 40, 3, 0, 0, 3, 1, 0), none,
  none, some (.if_icmp .ge 32, 3, 0, 0, 81, 0, 0), none, none, some (.iload 6, 2, 0, 0, 6, 0, 0), none,
  some (.aload_n 1, 1, 0, 0, 1, 0, 0), some (.iload 5, 2, 0, 0, 5, 0, 0), none, some (.iload 7, 2, 0, 0, 7, 0, 0), none, some (.invokevirtual 74, 3, 0, 0, 10, 2, 1),
  none, none, some (.aload_n 0, 1, 0, 0, 0, 0, 0), some (.getfield 15, 3, 0, 0, 3, 3, 0), none, none,
  some (.iload_n 3, 1, 0, 0, 3, 0, 0), some (.iload 7, 2, 0, 0, 7, 0, 0), none, some (.iadd, 1, 0, 0, 0, 0, 0), some (.iaload, 1, 0, 0, 0, 0, 0), some (.imul, 1, 0, 0, 0, 0, 0),
  some (.iadd, 1, 0, 0, 0, 0, 0), some (.istore 6, 2, 0, 0, 6, 0, 0), none, some (.iinc 7 1, 3, 1, 0, 7, 0, 0), none, none,
  some (.goto (-35), 3, 0, 0, 43, 0, 0), none, none, some (.aload_n 0, 1, 0, 0, 0, 0, 0), some (.getfield 19, 3, 0, 0, 3, 4, 0), none,
  none, some (.iload_n 3, 1, 0, 0, 3, 0, 0), some (.iload 5, 2, 0, 0, 5, 0, 0), none, some (.iadd, 1, 0, 0, 0, 0, 0), some (.iload 6, 2, 0, 0, 6, 0, 0),
  none, some (.aload_n 0, 1, 0, 0, 0, 0, 0), some (.getfield 9, 3, 0, 0, 3, 0, 0), none, none, some (.invokestatic 54, 3, 0, 0, 104, 2, 0),
  none, none, some (.iastore, 1, 0, 0, 0, 0, 0), some (.iload 4, 2, 0, 0, 4, 0, 0), none, some (.iload 6, 2, 0, 0, 6, 0, 0),
  none, some (.aload_n 0, 1, 0, 0, 0, 0, 0), some (.getfield 15, 3, 0, 0, 3, 3, 0), none, none, some (.iload_n 3, 1, 0, 0, 3, 0, 0),
  some (.iload 5, 2, 0, 0, 5, 0, 0), none, some (.iadd, 1, 0, 0, 0, 0, 0), some (.iaload, 1, 0, 0, 0, 0, 0), some (.imul, 1, 0, 0, 0, 0, 0), some (.iadd, 1, 0, 0, 0, 0, 0),
  some (.istore 4, 2, 0, 0, 4, 0, 0), none, some (.iinc 5 1, 3, 1, 0, 5, 0, 0), none, none, some (.goto (-108), 3, 0, 0, 11, 0, 0),
  none, none, some (.iload 4, 2, 0, 0, 4, 0, 0), none, some (.iconst 2, 1, 2, 0, 0, 0, 0), some (.idiv, 1, 0, 0, 0, 0, 0),
  some (.aload_n 0, 1, 0, 0, 0, 0, 0), some (.getfield 9, 3, 0, 0, 3, 0, 0), none, none, some (.invokestatic 54, 3, 0, 0, 104, 2, 0), none,
  none, some (.ireturn, 1, 0, 0, 0, 0, 0)])
def zt_Q_isSingular : zm_M := (⟨"QuadricFlats$Quadric", "isSingular", "(I)Z"⟩, prog_5_method_7_code, 3, some .boolean, 1, false, 3, [
  some (.iconst 0, 1, 0, 0, 0, 0, 0), some (.istore_n 2, 1, 0, 0, 2, 0, 0), some (.iload_n 2, 1, 0, 0, 2, 0, 0), some (.aload_n 0, 1, 0, 0, 0, 0, 0), some (.getfield 40, 3, 0, 0, 3, 1, 0), none,
  none, some (.if_icmp .ge 25, 3, 0, 0, 32, 0, 0), none, none, some (.aload_n 0, 1, 0, 0, 0, 0, 0), some (.getfield 19, 3, 0, 0, 3, 4, 0),
  none, none, some (.iload_n 1, 1, 0, 0, 1, 0, 0), some (.bipush 6, 2, 6, 0, 0, 0, 0), none, some (.imul, 1, 0, 0, 0, 0, 0),
  some (.iload_n 2, 1, 0, 0, 2, 0, 0), some (.iadd, 1, 0, 0, 0, 0, 0), some (.iaload, 1, 0, 0, 0, 0, 0), some (.ifCond .eq 5, 3, 0, 0, 26, 0, 0), none, none,
  some (.iconst 0, 1, 0, 0, 0, 0, 0), some (.ireturn, 1, 0, 0, 0, 0, 0), some (.iinc 2 1, 3, 1, 0, 2, 0, 0), none, none, some (.goto (-27), 3, 0, 0, 2, 0, 0),
  none, none, some (.iconst 1, 1, 1, 0, 0, 0, 0), some (.ireturn, 1, 0, 0, 0, 0, 0)])
def zt_Q_isOn : zm_M := (⟨"QuadricFlats$Quadric", "isOn", "(I)Z"⟩, prog_5_method_8_code, 2, some .boolean, 1, false, 3, [
  some (.aload_n 0, 1, 0, 0, 0, 0, 0), some (.getfield 22, 3, 0, 0, 3, 5, 0), none, none, some (.iload_n 1, 1, 0, 0, 1, 0, 0), some (.iaload, 1, 0, 0, 0, 0, 0),
  some (.ifCond .ne 7, 3, 0, 0, 13, 0, 0), none, none, some (.iconst 1, 1, 1, 0, 0, 0, 0), some (.goto 4, 3, 0, 0, 14, 0, 0), none,
  none, some (.iconst 0, 1, 0, 0, 0, 0, 0), some (.ireturn, 1, 0, 0, 0, 0, 0)])
def zt_Q_product : zm_M := (⟨"QuadricFlats$Quadric", "product", "([III)I"⟩, prog_5_method_9_code, 6, some .int, 3, false, 3, [
  some (.iconst 0, 1, 0, 0, 0, 0, 0), some (.istore 4, 2, 0, 0, 4, 0, 0), none, some (.iconst 0, 1, 0, 0, 0, 0, 0), some (.istore 5, 2, 0, 0, 5, 0, 0), none,
  some (.iload 5, 2, 0, 0, 5, 0, 0), none, some (.aload_n 0, 1, 0, 0, 0, 0, 0), some (.getfield 40, 3, 0, 0, 3, 1, 0), none, none,
  some (.if_icmp .ge 36, 3, 0, 0, 48, 0, 0), none, none, some (.iload 4, 2, 0, 0, 4, 0, 0), none, some (.aload_n 1, 1, 0, 0, 1, 0, 0),
  some (.iload_n 2, 1, 0, 0, 2, 0, 0), some (.bipush 6, 2, 6, 0, 0, 0, 0), none, some (.imul, 1, 0, 0, 0, 0, 0), some (.iload 5, 2, 0, 0, 5, 0, 0), none,
  some (.iadd, 1, 0, 0, 0, 0, 0), some (.iaload, 1, 0, 0, 0, 0, 0), some (.aload_n 0, 1, 0, 0, 0, 0, 0), some (.getfield 15, 3, 0, 0, 3, 3, 0), none, none,
  some (.iload_n 3, 1, 0, 0, 3, 0, 0), some (.bipush 6, 2, 6, 0, 0, 0, 0), none, some (.imul, 1, 0, 0, 0, 0, 0), some (.iload 5, 2, 0, 0, 5, 0, 0), none,
  some (.iadd, 1, 0, 0, 0, 0, 0), some (.iaload, 1, 0, 0, 0, 0, 0), some (.imul, 1, 0, 0, 0, 0, 0), some (.iadd, 1, 0, 0, 0, 0, 0), some (.istore 4, 2, 0, 0, 4, 0, 0), none,
  some (.iinc 5 1, 3, 1, 0, 5, 0, 0), none, none, some (.goto (-39), 3, 0, 0, 6, 0, 0), none, none,
  some (.iload 4, 2, 0, 0, 4, 0, 0), none, some (.aload_n 0, 1, 0, 0, 0, 0, 0), some (.getfield 9, 3, 0, 0, 3, 0, 0), none, none,
  some (.invokestatic 54, 3, 0, 0, 104, 2, 0), none, none, some (.ireturn, 1, 0, 0, 0, 0, 0)])
def zt_Q_areCollinear : zm_M := (⟨"QuadricFlats$Quadric", "areCollinear", "(II)Z"⟩, prog_5_method_10_code, 3, some .boolean, 2, false, 3, [
  some (.iload_n 1, 1, 0, 0, 1, 0, 0), some (.iload_n 2, 1, 0, 0, 2, 0, 0), some (.if_icmp .eq 36, 3, 0, 0, 38, 0, 0), none, none, some (.aload_n 0, 1, 0, 0, 0, 0, 0),
  some (.iload_n 1, 1, 0, 0, 1, 0, 0), some (.invokevirtual 77, 3, 0, 0, 36, 1, 3), none, none, some (.ifCond .eq 28, 3, 0, 0, 38, 0, 0), none,
  none, some (.aload_n 0, 1, 0, 0, 0, 0, 0), some (.iload_n 2, 1, 0, 0, 2, 0, 0), some (.invokevirtual 77, 3, 0, 0, 36, 1, 3), none, none,
  some (.ifCond .eq 20, 3, 0, 0, 38, 0, 0), none, none, some (.aload_n 0, 1, 0, 0, 0, 0, 0), some (.aload_n 0, 1, 0, 0, 0, 0, 0), some (.getfield 19, 3, 0, 0, 3, 4, 0),
  none, none, some (.iload_n 1, 1, 0, 0, 1, 0, 0), some (.iload_n 2, 1, 0, 0, 2, 0, 0), some (.invokevirtual 80, 3, 0, 0, 37, 3, 3), none,
  none, some (.ifCond .ne 7, 3, 0, 0, 38, 0, 0), none, none, some (.iconst 1, 1, 1, 0, 0, 0, 0), some (.goto 4, 3, 0, 0, 39, 0, 0),
  none, none, some (.iconst 0, 1, 0, 0, 0, 0, 0), some (.ireturn, 1, 0, 0, 0, 0, 0)])
def zt_Q_sectionSize : zm_M := (⟨"QuadricFlats$Quadric", "sectionSize", "(I)I"⟩, prog_5_method_11_code, 4, some .int, 1, false, 3, [
  some (.iconst 0, 1, 0, 0, 0, 0, 0), some (.istore_n 2, 1, 0, 0, 2, 0, 0), some (.iconst 0, 1, 0, 0, 0, 0, 0), some (.istore_n 3, 1, 0, 0, 3, 0, 0), some (.iload_n 3, 1, 0, 0, 3, 0, 0), some (.aload_n 0, 1, 0, 0, 0, 0, 0),
  some (.getfield 60, 3, 0, 0, 3, 8, 0), none, none, some (.if_icmp .ge 35, 3, 0, 0, 44, 0, 0), none, none,
  some (.iload_n 2, 1, 0, 0, 2, 0, 0), some (.aload_n 0, 1, 0, 0, 0, 0, 0), some (.aload_n 0, 1, 0, 0, 0, 0, 0), some (.getfield 15, 3, 0, 0, 3, 3, 0), none, none,
  some (.iload_n 1, 1, 0, 0, 1, 0, 0), some (.aload_n 0, 1, 0, 0, 0, 0, 0), some (.getfield 25, 3, 0, 0, 3, 6, 0), none, none, some (.iload_n 3, 1, 0, 0, 3, 0, 0),
  some (.iaload, 1, 0, 0, 0, 0, 0), some (.invokevirtual 80, 3, 0, 0, 37, 3, 3), none, none, some (.ifCond .ne 7, 3, 0, 0, 35, 0, 0), none,
  none, some (.iconst 1, 1, 1, 0, 0, 0, 0), some (.goto 4, 3, 0, 0, 36, 0, 0), none, none, some (.iconst 0, 1, 0, 0, 0, 0, 0),
  some (.iadd, 1, 0, 0, 0, 0, 0), some (.istore_n 2, 1, 0, 0, 2, 0, 0), some (.iinc 3 1, 3, 1, 0, 3, 0, 0), none, none, some (.goto (-37), 3, 0, 0, 4, 0, 0),
  none, none, some (.iload_n 2, 1, 0, 0, 2, 0, 0), some (.ireturn, 1, 0, 0, 0, 0, 0)])
def zt_Q_tangentPoint : zm_M := (⟨"QuadricFlats$Quadric", "tangentPoint", "(I)I"⟩, prog_5_method_12_code, 5, some .int, 1, false, 3, [
  some (.iconst 0, 1, 0, 0, 0, 0, 0), some (.istore_n 2, 1, 0, 0, 2, 0, 0), some (.iload_n 2, 1, 0, 0, 2, 0, 0), some (.aload_n 0, 1, 0, 0, 0, 0, 0), some (.getfield 60, 3, 0, 0, 3, 8, 0), none,
  none, some (.if_icmp .ge 68, 3, 0, 0, 75, 0, 0), none, none, some (.aload_n 0, 1, 0, 0, 0, 0, 0), some (.getfield 25, 3, 0, 0, 3, 6, 0),
  none, none, some (.iload_n 2, 1, 0, 0, 2, 0, 0), some (.iaload, 1, 0, 0, 0, 0, 0), some (.bipush 6, 2, 6, 0, 0, 0, 0), none,
  some (.imul, 1, 0, 0, 0, 0, 0), some (.istore_n 3, 1, 0, 0, 3, 0, 0), some (.iconst 0, 1, 0, 0, 0, 0, 0), some (.istore 4, 2, 0, 0, 4, 0, 0), none, some (.iload 4, 2, 0, 0, 4, 0, 0),
  none, some (.aload_n 0, 1, 0, 0, 0, 0, 0), some (.getfield 40, 3, 0, 0, 3, 1, 0), none, none, some (.if_icmp .ge 25, 3, 0, 0, 54, 0, 0),
  none, none, some (.aload_n 0, 1, 0, 0, 0, 0, 0), some (.getfield 31, 3, 0, 0, 3, 10, 0), none, none,
  some (.iload 4, 2, 0, 0, 4, 0, 0), none, some (.aload_n 0, 1, 0, 0, 0, 0, 0), some (.getfield 19, 3, 0, 0, 3, 4, 0), none, none,
  some (.iload_n 3, 1, 0, 0, 3, 0, 0), some (.iload 4, 2, 0, 0, 4, 0, 0), none, some (.iadd, 1, 0, 0, 0, 0, 0), some (.iaload, 1, 0, 0, 0, 0, 0), some (.iastore, 1, 0, 0, 0, 0, 0),
  some (.iinc 4 1, 3, 1, 0, 4, 0, 0), none, none, some (.goto (-28), 3, 0, 0, 23, 0, 0), none, none,
  some (.aload_n 0, 1, 0, 0, 0, 0, 0), some (.invokevirtual 84, 3, 0, 0, 32, 0, 3), none, none, some (.iload_n 1, 1, 0, 0, 1, 0, 0), some (.if_icmp .ne 10, 3, 0, 0, 69, 0, 0),
  none, none, some (.aload_n 0, 1, 0, 0, 0, 0, 0), some (.getfield 25, 3, 0, 0, 3, 6, 0), none, none,
  some (.iload_n 2, 1, 0, 0, 2, 0, 0), some (.iaload, 1, 0, 0, 0, 0, 0), some (.ireturn, 1, 0, 0, 0, 0, 0), some (.iinc 2 1, 3, 1, 0, 2, 0, 0), none, none,
  some (.goto (-70), 3, 0, 0, 2, 0, 0), none, none, some (.iconst (-1), 1, (-1), 0, 0, 0, 0), some (.ireturn, 1, 0, 0, 0, 0, 0)])
def zt_Q_kind : zm_M := (⟨"QuadricFlats$Quadric", "kind", "()I"⟩, prog_5_method_13_code, 1, some .int, 0, false, 3, [
  some (.aload_n 0, 1, 0, 0, 0, 0, 0), some (.getfield 63, 3, 0, 0, 3, 9, 0), none, none, some (.ifCond .le 5, 3, 0, 0, 9, 0, 0), none,
  none, some (.iconst 3, 1, 3, 0, 0, 0, 0), some (.ireturn, 1, 0, 0, 0, 0, 0), some (.aload_n 0, 1, 0, 0, 0, 0, 0), some (.getfield 40, 3, 0, 0, 3, 1, 0), none,
  none, some (.iconst 2, 1, 2, 0, 0, 0, 0), some (.irem, 1, 0, 0, 0, 0, 0), some (.ifCond .eq 5, 3, 0, 0, 20, 0, 0), none, none,
  some (.iconst 0, 1, 0, 0, 0, 0, 0), some (.ireturn, 1, 0, 0, 0, 0, 0), some (.aload_n 0, 1, 0, 0, 0, 0, 0), some (.invokevirtual 88, 3, 0, 0, 43, 0, 3), none, none,
  some (.ifCond .eq 7, 3, 0, 0, 31, 0, 0), none, none, some (.iconst 1, 1, 1, 0, 0, 0, 0), some (.goto 4, 3, 0, 0, 32, 0, 0), none,
  none, some (.iconst 2, 1, 2, 0, 0, 0, 0), some (.ireturn, 1, 0, 0, 0, 0, 0)])
def zt_Q_index : zm_M := (⟨"QuadricFlats$Quadric", "index", "()I"⟩, prog_5_method_14_code, 1, some .int, 0, false, 3, [
  some (.aload_n 0, 1, 0, 0, 0, 0, 0), some (.getfield 63, 3, 0, 0, 3, 9, 0), none, none, some (.ifCond .le 5, 3, 0, 0, 9, 0, 0), none,
  none, some (.iconst (-1), 1, (-1), 0, 0, 0, 0), some (.ireturn, 1, 0, 0, 0, 0, 0), some (.aload_n 0, 1, 0, 0, 0, 0, 0), some (.getfield 40, 3, 0, 0, 3, 1, 0), none,
  none, some (.iconst 2, 1, 2, 0, 0, 0, 0), some (.irem, 1, 0, 0, 0, 0, 0), some (.ifCond .ne 10, 3, 0, 0, 25, 0, 0), none, none,
  some (.aload_n 0, 1, 0, 0, 0, 0, 0), some (.invokevirtual 88, 3, 0, 0, 43, 0, 3), none, none, some (.ifCond .eq 12, 3, 0, 0, 34, 0, 0), none,
  none, some (.aload_n 0, 1, 0, 0, 0, 0, 0), some (.getfield 40, 3, 0, 0, 3, 1, 0), none, none, some (.iconst 2, 1, 2, 0, 0, 0, 0),
  some (.idiv, 1, 0, 0, 0, 0, 0), some (.goto 11, 3, 0, 0, 42, 0, 0), none, none, some (.aload_n 0, 1, 0, 0, 0, 0, 0), some (.getfield 40, 3, 0, 0, 3, 1, 0),
  none, none, some (.iconst 2, 1, 2, 0, 0, 0, 0), some (.idiv, 1, 0, 0, 0, 0, 0), some (.iconst 1, 1, 1, 0, 0, 0, 0), some (.isub, 1, 0, 0, 0, 0, 0),
  some (.ireturn, 1, 0, 0, 0, 0, 0)])
def zt_Q_isHyperbolic : zm_M := (⟨"QuadricFlats$Quadric", "isHyperbolic", "()Z"⟩, prog_5_method_15_code, 1, some .boolean, 0, false, 3, [
  some (.aload_n 0, 1, 0, 0, 0, 0, 0), some (.getfield 60, 3, 0, 0, 3, 8, 0), none, none, some (.aload_n 0, 1, 0, 0, 0, 0, 0), some (.getfield 9, 3, 0, 0, 3, 0, 0),
  none, none, some (.imul, 1, 0, 0, 0, 0, 0), some (.aload_n 0, 1, 0, 0, 0, 0, 0), some (.getfield 47, 3, 0, 0, 3, 2, 0), none,
  none, some (.iconst 1, 1, 1, 0, 0, 0, 0), some (.isub, 1, 0, 0, 0, 0, 0), some (.if_icmp .le 7, 3, 0, 0, 22, 0, 0), none, none,
  some (.iconst 1, 1, 1, 0, 0, 0, 0), some (.goto 4, 3, 0, 0, 23, 0, 0), none, none, some (.iconst 0, 1, 0, 0, 0, 0, 0), some (.ireturn, 1, 0, 0, 0, 0, 0)])
def zt_H_run : zm_M := (⟨"QuadricFlats$Search", "run", "()V"⟩, prog_6_method_2_code, 5, none, 0, false, 4, [
  some (.aload_n 0, 1, 0, 0, 0, 0, 0), some (.iconst 0, 1, 0, 0, 0, 0, 0), some (.putfield 18, 3, 0, 0, 4, 2, 0), none, none, some (.aload_n 0, 1, 0, 0, 0, 0, 0),
  some (.lconst 0, 1, 0, 0, 0, 0, 0), some (.putfield 22, 3, 0, 0, 4, 3, 1), none, none, some (.aload_n 0, 1, 0, 0, 0, 0, 0), some (.getfield 15, 3, 0, 0, 4, 1, 0),
  none, none, some (.invokevirtual 26, 3, 0, 0, 55, 0, 5), none, none, some (.aload_n 0, 1, 0, 0, 0, 0, 0),
  some (.getfield 9, 3, 0, 0, 4, 0, 0), none, none, some (.invokevirtual 32, 3, 0, 0, 53, 0, 5), none, none,
  some (.ldc2_w 35, 3, 0, (-1), 0, 0, 0), none, none, some (.lxor, 1, 0, 0, 0, 0, 0), some (.land, 1, 0, 0, 0, 0, 0), some (.lstore_n 1, 1, 0, 0, 1, 0, 0),
  some (.aload_n 0, 1, 0, 0, 0, 0, 0), some (.getfield 9, 3, 0, 0, 4, 0, 0), none, none, some (.invokevirtual 26, 3, 0, 0, 55, 0, 5), none,
  none, some (.aload_n 0, 1, 0, 0, 0, 0, 0), some (.getfield 9, 3, 0, 0, 4, 0, 0), none, none, some (.invokevirtual 37, 3, 0, 0, 54, 0, 5),
  none, none, some (.ldc2_w 35, 3, 0, (-1), 0, 0, 0), none, none, some (.lxor, 1, 0, 0, 0, 0, 0),
  some (.land, 1, 0, 0, 0, 0, 0), some (.lstore_n 3, 1, 0, 0, 3, 0, 0), some (.aload_n 0, 1, 0, 0, 0, 0, 0), some (.lload_n 1, 1, 0, 0, 1, 0, 0), some (.lload_n 3, 1, 0, 0, 3, 0, 0), some (.aload_n 0, 1, 0, 0, 0, 0, 0),
  some (.getfield 9, 3, 0, 0, 4, 0, 0), none, none, some (.invokevirtual 40, 3, 0, 0, 52, 0, 5), none, none,
  some (.aload_n 0, 1, 0, 0, 0, 0, 0), some (.getfield 9, 3, 0, 0, 4, 0, 0), none, none, some (.getfield 43, 3, 0, 0, 5, 4, 0), none,
  none, some (.invokevirtual 46, 3, 0, 0, 45, 4, 4), none, none, some (.return_, 1, 0, 0, 0, 0, 0)])
def zt_H_walk : zm_M := (⟨"QuadricFlats$Search", "walk", "(JJJI)V"⟩, prog_6_method_3_code, 12, none, 4, false, 4, [
  some (.lload_n 1, 1, 0, 0, 1, 0, 0), some (.lconst 0, 1, 0, 0, 0, 0, 0), some (.lcmp, 1, 0, 0, 0, 0, 0), some (.ifCond .ne 10, 3, 0, 0, 13, 0, 0), none, none,
  some (.aload_n 0, 1, 0, 0, 0, 0, 0), some (.lload 5, 2, 0, 0, 5, 0, 0), none, some (.invokevirtual 50, 3, 0, 0, 46, 1, 4), none, none,
  some (.return_, 1, 0, 0, 0, 0, 0), some (.iload 7, 2, 0, 0, 7, 0, 0), none, some (.bipush 40, 2, 40, 0, 0, 0, 0), none, some (.if_icmp .lt 4, 3, 0, 0, 21, 0, 0),
  none, none, some (.return_, 1, 0, 0, 0, 0, 0), some (.aload_n 0, 1, 0, 0, 0, 0, 0), some (.lload_n 1, 1, 0, 0, 1, 0, 0), some (.lload_n 3, 1, 0, 0, 3, 0, 0),
  some (.invokevirtual 54, 3, 0, 0, 47, 2, 4), none, none, some (.lstore 8, 2, 0, 0, 8, 0, 0), none, some (.lload 8, 2, 0, 0, 8, 0, 0),
  none, some (.invokestatic 58, 3, 0, 0, 216, 1, 0), none, none, some (.istore 10, 2, 0, 0, 10, 0, 0), none,
  some (.iload 10, 2, 0, 0, 10, 0, 0), none, some (.ifCond .le 72, 3, 0, 0, 110, 0, 0), none, none, some (.lload 8, 2, 0, 0, 8, 0, 0),
  none, some (.invokestatic 64, 3, 0, 0, 106, 1, 0), none, none, some (.istore 11, 2, 0, 0, 11, 0, 0), none,
  some (.lload 8, 2, 0, 0, 8, 0, 0), none, some (.lload 8, 2, 0, 0, 8, 0, 0), none, some (.lconst 1, 1, 0, 1, 0, 0, 0), some (.lsub, 1, 0, 0, 0, 0, 0),
  some (.land, 1, 0, 0, 0, 0, 0), some (.lstore 8, 2, 0, 0, 8, 0, 0), none, some (.aload_n 0, 1, 0, 0, 0, 0, 0), some (.lload_n 1, 1, 0, 0, 1, 0, 0), some (.aload_n 0, 1, 0, 0, 0, 0, 0),
  some (.getfield 9, 3, 0, 0, 4, 0, 0), none, none, some (.getfield 67, 3, 0, 0, 5, 1, 0), none, none,
  some (.iload 11, 2, 0, 0, 11, 0, 0), none, some (.laload, 1, 0, 0, 0, 0, 0), some (.ldc2_w 35, 3, 0, (-1), 0, 0, 0), none, none,
  some (.lxor, 1, 0, 0, 0, 0, 0), some (.land, 1, 0, 0, 0, 0, 0), some (.lload_n 3, 1, 0, 0, 3, 0, 0), some (.aload_n 0, 1, 0, 0, 0, 0, 0), some (.getfield 9, 3, 0, 0, 4, 0, 0), none,
  none, some (.getfield 71, 3, 0, 0, 5, 2, 0), none, none, some (.iload 11, 2, 0, 0, 11, 0, 0), none,
  some (.laload, 1, 0, 0, 0, 0, 0), some (.ldc2_w 35, 3, 0, (-1), 0, 0, 0), none, none, some (.lxor, 1, 0, 0, 0, 0, 0), some (.land, 1, 0, 0, 0, 0, 0),
  some (.lload 5, 2, 0, 0, 5, 0, 0), none, some (.lconst 1, 1, 0, 1, 0, 0, 0), some (.iload 11, 2, 0, 0, 11, 0, 0), none, some (.lshl, 1, 0, 0, 0, 0, 0),
  some (.lor, 1, 0, 0, 0, 0, 0), some (.iload 7, 2, 0, 0, 7, 0, 0), none, some (.iconst 1, 1, 1, 0, 0, 0, 0), some (.iadd, 1, 0, 0, 0, 0, 0), some (.invokevirtual 46, 3, 0, 0, 45, 4, 4),
  none, none, some (.iinc 10 (-1), 3, (-1), 0, 10, 0, 0), none, none, some (.goto (-71), 3, 0, 0, 36, 0, 0),
  none, none, some (.return_, 1, 0, 0, 0, 0, 0)])
def zt_H_note : zm_M := (⟨"QuadricFlats$Search", "note", "(J)V"⟩, prog_6_method_4_code, 5, none, 1, false, 4, [
  some (.lload_n 1, 1, 0, 0, 1, 0, 0), some (.aload_n 0, 1, 0, 0, 0, 0, 0), some (.getfield 22, 3, 0, 0, 4, 3, 0), none, none, some (.lxor, 1, 0, 0, 0, 0, 0),
  some (.lstore_n 3, 1, 0, 0, 3, 0, 0), some (.aload_n 0, 1, 0, 0, 0, 0, 0), some (.getfield 18, 3, 0, 0, 4, 2, 0), none, none, some (.ifCond .eq 14, 3, 0, 0, 25, 0, 0),
  none, none, some (.lload_n 1, 1, 0, 0, 1, 0, 0), some (.lload_n 3, 1, 0, 0, 3, 0, 0), some (.land, 1, 0, 0, 0, 0, 0), some (.lload_n 3, 1, 0, 0, 3, 0, 0),
  some (.lneg, 1, 0, 0, 0, 0, 0), some (.land, 1, 0, 0, 0, 0, 0), some (.lconst 0, 1, 0, 0, 0, 0, 0), some (.lcmp, 1, 0, 0, 0, 0, 0), some (.ifCond .eq 8, 3, 0, 0, 30, 0, 0), none,
  none, some (.aload_n 0, 1, 0, 0, 0, 0, 0), some (.lload_n 1, 1, 0, 0, 1, 0, 0), some (.putfield 22, 3, 0, 0, 4, 3, 1), none, none,
  some (.aload_n 0, 1, 0, 0, 0, 0, 0), some (.dup, 1, 0, 0, 0, 0, 0), some (.getfield 18, 3, 0, 0, 4, 2, 0), none, none, some (.iconst 1, 1, 1, 0, 0, 0, 0),
  some (.iadd, 1, 0, 0, 0, 0, 0), some (.putfield 18, 3, 0, 0, 4, 2, 0), none, none, some (.return_, 1, 0, 0, 0, 0, 0)])
def zt_H_fewestChoices : zm_M := (⟨"QuadricFlats$Search", "fewestChoices", "(JJ)J"⟩, prog_6_method_5_code, 12, some .long, 2, false, 4, [
  some (.lconst 0, 1, 0, 0, 0, 0, 0), some (.lstore 5, 2, 0, 0, 5, 0, 0), none, some (.bipush 65, 2, 65, 0, 0, 0, 0), none, some (.istore 7, 2, 0, 0, 7, 0, 0),
  none, some (.iconst 0, 1, 0, 0, 0, 0, 0), some (.istore 8, 2, 0, 0, 8, 0, 0), none, some (.iload 8, 2, 0, 0, 8, 0, 0), none,
  some (.aload_n 0, 1, 0, 0, 0, 0, 0), some (.getfield 15, 3, 0, 0, 4, 1, 0), none, none, some (.getfield 74, 3, 0, 0, 5, 0, 0), none,
  none, some (.if_icmp .ge 62, 3, 0, 0, 81, 0, 0), none, none, some (.iload 7, 2, 0, 0, 7, 0, 0), none,
  some (.iconst 1, 1, 1, 0, 0, 0, 0), some (.if_icmp .le 56, 3, 0, 0, 81, 0, 0), none, none, some (.lload_n 1, 1, 0, 0, 1, 0, 0), some (.iload 8, 2, 0, 0, 8, 0, 0),
  none, some (.lushr, 1, 0, 0, 0, 0, 0), some (.lconst 1, 1, 0, 1, 0, 0, 0), some (.land, 1, 0, 0, 0, 0, 0), some (.lconst 0, 1, 0, 0, 0, 0, 0), some (.lcmp, 1, 0, 0, 0, 0, 0),
  some (.ifCond .eq 39, 3, 0, 0, 75, 0, 0), none, none, some (.aload_n 0, 1, 0, 0, 0, 0, 0), some (.getfield 15, 3, 0, 0, 4, 1, 0), none,
  none, some (.getfield 67, 3, 0, 0, 5, 1, 0), none, none, some (.iload 8, 2, 0, 0, 8, 0, 0), none,
  some (.laload, 1, 0, 0, 0, 0, 0), some (.lload_n 3, 1, 0, 0, 3, 0, 0), some (.land, 1, 0, 0, 0, 0, 0), some (.lstore 9, 2, 0, 0, 9, 0, 0), none, some (.lload 9, 2, 0, 0, 9, 0, 0),
  none, some (.invokestatic 58, 3, 0, 0, 216, 1, 0), none, none, some (.istore 11, 2, 0, 0, 11, 0, 0), none,
  some (.iload 11, 2, 0, 0, 11, 0, 0), none, some (.iload 7, 2, 0, 0, 7, 0, 0), none, some (.if_icmp .ge 11, 3, 0, 0, 75, 0, 0), none,
  none, some (.lload 9, 2, 0, 0, 9, 0, 0), none, some (.lstore 5, 2, 0, 0, 5, 0, 0), none, some (.iload 11, 2, 0, 0, 11, 0, 0),
  none, some (.istore 7, 2, 0, 0, 7, 0, 0), none, some (.iinc 8 1, 3, 1, 0, 8, 0, 0), none, none,
  some (.goto (-68), 3, 0, 0, 10, 0, 0), none, none, some (.lload 5, 2, 0, 0, 5, 0, 0), none, some (.lreturn, 1, 0, 0, 0, 0, 0)])
def zt_D_findClashes : zm_M := (⟨"QuadricFlats$Side", "findClashes", "(LQuadricFlats$Side;)V"⟩, prog_7_method_2_code, 6, none, 1, false, 5, [
  some (.iconst 0, 1, 0, 0, 0, 0, 0), some (.istore_n 2, 1, 0, 0, 2, 0, 0), some (.iload_n 2, 1, 0, 0, 2, 0, 0), some (.aload_n 0, 1, 0, 0, 0, 0, 0), some (.getfield 22, 3, 0, 0, 5, 0, 0), none,
  none, some (.if_icmp .ge 62, 3, 0, 0, 69, 0, 0), none, none, some (.lconst 0, 1, 0, 0, 0, 0, 0), some (.lstore_n 3, 1, 0, 0, 3, 0, 0),
  some (.iconst 0, 1, 0, 0, 0, 0, 0), some (.istore 5, 2, 0, 0, 5, 0, 0), none, some (.iload 5, 2, 0, 0, 5, 0, 0), none, some (.aload_n 1, 1, 0, 0, 1, 0, 0),
  some (.getfield 22, 3, 0, 0, 5, 0, 0), none, none, some (.if_icmp .ge 35, 3, 0, 0, 56, 0, 0), none, none,
  some (.aload_n 0, 1, 0, 0, 0, 0, 0), some (.getfield 9, 3, 0, 0, 5, 1, 0), none, none, some (.iload_n 2, 1, 0, 0, 2, 0, 0), some (.laload, 1, 0, 0, 0, 0, 0),
  some (.iload 5, 2, 0, 0, 5, 0, 0), none, some (.lushr, 1, 0, 0, 0, 0, 0), some (.lconst 1, 1, 0, 1, 0, 0, 0), some (.land, 1, 0, 0, 0, 0, 0), some (.lconst 0, 1, 0, 0, 0, 0, 0),
  some (.lcmp, 1, 0, 0, 0, 0, 0), some (.ifCond .eq 13, 3, 0, 0, 50, 0, 0), none, none, some (.lload_n 3, 1, 0, 0, 3, 0, 0), some (.aload_n 1, 1, 0, 0, 1, 0, 0),
  some (.getfield 9, 3, 0, 0, 5, 1, 0), none, none, some (.iload 5, 2, 0, 0, 5, 0, 0), none, some (.laload, 1, 0, 0, 0, 0, 0),
  some (.lor, 1, 0, 0, 0, 0, 0), some (.lstore_n 3, 1, 0, 0, 3, 0, 0), some (.iinc 5 1, 3, 1, 0, 5, 0, 0), none, none, some (.goto (-38), 3, 0, 0, 15, 0, 0),
  none, none, some (.aload_n 0, 1, 0, 0, 0, 0, 0), some (.getfield 15, 3, 0, 0, 5, 2, 0), none, none,
  some (.iload_n 2, 1, 0, 0, 2, 0, 0), some (.lload_n 3, 1, 0, 0, 3, 0, 0), some (.lastore, 1, 0, 0, 0, 0, 0), some (.iinc 2 1, 3, 1, 0, 2, 0, 0), none, none,
  some (.goto (-64), 3, 0, 0, 2, 0, 0), none, none, some (.return_, 1, 0, 0, 0, 0, 0)])
def zt_D_refuses : zm_M := (⟨"QuadricFlats$Side", "refuses", "(I)Z"⟩, prog_7_method_3_code, 2, some .boolean, 1, false, 5, [
  some (.aload_n 0, 1, 0, 0, 0, 0, 0), some (.getfield 15, 3, 0, 0, 5, 2, 0), none, none, some (.iload_n 1, 1, 0, 0, 1, 0, 0), some (.laload, 1, 0, 0, 0, 0, 0),
  some (.aload_n 0, 1, 0, 0, 0, 0, 0), some (.invokevirtual 26, 3, 0, 0, 52, 0, 5), none, none, some (.land, 1, 0, 0, 0, 0, 0), some (.lconst 0, 1, 0, 0, 0, 0, 0),
  some (.lcmp, 1, 0, 0, 0, 0, 0), some (.ifCond .ne 12, 3, 0, 0, 25, 0, 0), none, none, some (.aload_n 0, 1, 0, 0, 0, 0, 0), some (.getfield 30, 3, 0, 0, 5, 4, 0),
  none, none, some (.bipush 64, 2, 64, 0, 0, 0, 0), none, some (.if_icmp .lt 7, 3, 0, 0, 29, 0, 0), none,
  none, some (.iconst 1, 1, 1, 0, 0, 0, 0), some (.goto 4, 3, 0, 0, 30, 0, 0), none, none, some (.iconst 0, 1, 0, 0, 0, 0, 0),
  some (.ireturn, 1, 0, 0, 0, 0, 0)])
def zt_D_append : zm_M := (⟨"QuadricFlats$Side", "append", "(I)V"⟩, prog_7_method_4_code, 2, none, 1, false, 5, [
  some (.aload_n 0, 1, 0, 0, 0, 0, 0), some (.getfield 30, 3, 0, 0, 5, 4, 0), none, none, some (.bipush 64, 2, 64, 0, 0, 0, 0), none,
  some (.if_icmp .ge 23, 3, 0, 0, 29, 0, 0), none, none, some (.aload_n 0, 1, 0, 0, 0, 0, 0), some (.getfield 18, 3, 0, 0, 5, 3, 0), none,
  none, some (.aload_n 0, 1, 0, 0, 0, 0, 0), some (.getfield 30, 3, 0, 0, 5, 4, 0), none, none, some (.iload_n 1, 1, 0, 0, 1, 0, 0),
  some (.iastore, 1, 0, 0, 0, 0, 0), some (.aload_n 0, 1, 0, 0, 0, 0, 0), some (.dup, 1, 0, 0, 0, 0, 0), some (.getfield 30, 3, 0, 0, 5, 4, 0), none, none,
  some (.iconst 1, 1, 1, 0, 0, 0, 0), some (.iadd, 1, 0, 0, 0, 0, 0), some (.putfield 30, 3, 0, 0, 5, 4, 0), none, none, some (.return_, 1, 0, 0, 0, 0, 0)])
def zt_D_appendAll : zm_M := (⟨"QuadricFlats$Side", "appendAll", "(J)V"⟩, prog_7_method_5_code, 4, none, 1, false, 5, [
  some (.iconst 0, 1, 0, 0, 0, 0, 0), some (.istore_n 3, 1, 0, 0, 3, 0, 0), some (.iload_n 3, 1, 0, 0, 3, 0, 0), some (.aload_n 0, 1, 0, 0, 0, 0, 0), some (.getfield 22, 3, 0, 0, 5, 0, 0), none,
  none, some (.if_icmp .ge 24, 3, 0, 0, 31, 0, 0), none, none, some (.lload_n 1, 1, 0, 0, 1, 0, 0), some (.iload_n 3, 1, 0, 0, 3, 0, 0),
  some (.lushr, 1, 0, 0, 0, 0, 0), some (.lconst 1, 1, 0, 1, 0, 0, 0), some (.land, 1, 0, 0, 0, 0, 0), some (.lconst 0, 1, 0, 0, 0, 0, 0), some (.lcmp, 1, 0, 0, 0, 0, 0), some (.ifCond .eq 8, 3, 0, 0, 25, 0, 0),
  none, none, some (.aload_n 0, 1, 0, 0, 0, 0, 0), some (.iload_n 3, 1, 0, 0, 3, 0, 0), some (.invokevirtual 33, 3, 0, 0, 50, 1, 5), none,
  none, some (.iinc 3 1, 3, 1, 0, 3, 0, 0), none, none, some (.goto (-26), 3, 0, 0, 2, 0, 0), none,
  none, some (.return_, 1, 0, 0, 0, 0, 0)])
def zt_D_taken : zm_M := (⟨"QuadricFlats$Side", "taken", "()J"⟩, prog_7_method_6_code, 4, some .long, 0, false, 5, [
  some (.lconst 0, 1, 0, 0, 0, 0, 0), some (.lstore_n 1, 1, 0, 0, 1, 0, 0), some (.iconst 0, 1, 0, 0, 0, 0, 0), some (.istore_n 3, 1, 0, 0, 3, 0, 0), some (.iload_n 3, 1, 0, 0, 3, 0, 0), some (.aload_n 0, 1, 0, 0, 0, 0, 0),
  some (.getfield 30, 3, 0, 0, 5, 4, 0), none, none, some (.if_icmp .ge 20, 3, 0, 0, 29, 0, 0), none, none,
  some (.lload_n 1, 1, 0, 0, 1, 0, 0), some (.lconst 1, 1, 0, 1, 0, 0, 0), some (.aload_n 0, 1, 0, 0, 0, 0, 0), some (.getfield 18, 3, 0, 0, 5, 3, 0), none, none,
  some (.iload_n 3, 1, 0, 0, 3, 0, 0), some (.iaload, 1, 0, 0, 0, 0, 0), some (.lshl, 1, 0, 0, 0, 0, 0), some (.lor, 1, 0, 0, 0, 0, 0), some (.lstore_n 1, 1, 0, 0, 1, 0, 0), some (.iinc 3 1, 3, 1, 0, 3, 0, 0),
  none, none, some (.goto (-22), 3, 0, 0, 4, 0, 0), none, none, some (.lload_n 1, 1, 0, 0, 1, 0, 0),
  some (.lreturn, 1, 0, 0, 0, 0, 0)])
def zt_D_covered : zm_M := (⟨"QuadricFlats$Side", "covered", "()J"⟩, prog_7_method_7_code, 4, some .long, 0, false, 5, [
  some (.lconst 0, 1, 0, 0, 0, 0, 0), some (.lstore_n 1, 1, 0, 0, 1, 0, 0), some (.iconst 0, 1, 0, 0, 0, 0, 0), some (.istore_n 3, 1, 0, 0, 3, 0, 0), some (.iload_n 3, 1, 0, 0, 3, 0, 0), some (.aload_n 0, 1, 0, 0, 0, 0, 0),
  some (.getfield 30, 3, 0, 0, 5, 4, 0), none, none, some (.if_icmp .ge 23, 3, 0, 0, 32, 0, 0), none, none,
  some (.lload_n 1, 1, 0, 0, 1, 0, 0), some (.aload_n 0, 1, 0, 0, 0, 0, 0), some (.getfield 9, 3, 0, 0, 5, 1, 0), none, none, some (.aload_n 0, 1, 0, 0, 0, 0, 0),
  some (.getfield 18, 3, 0, 0, 5, 3, 0), none, none, some (.iload_n 3, 1, 0, 0, 3, 0, 0), some (.iaload, 1, 0, 0, 0, 0, 0), some (.laload, 1, 0, 0, 0, 0, 0),
  some (.lor, 1, 0, 0, 0, 0, 0), some (.lstore_n 1, 1, 0, 0, 1, 0, 0), some (.iinc 3 1, 3, 1, 0, 3, 0, 0), none, none, some (.goto (-25), 3, 0, 0, 4, 0, 0),
  none, none, some (.lload_n 1, 1, 0, 0, 1, 0, 0), some (.lreturn, 1, 0, 0, 0, 0, 0)])
def zt_D_clashing : zm_M := (⟨"QuadricFlats$Side", "clashing", "()J"⟩, prog_7_method_8_code, 4, some .long, 0, false, 5, [
  some (.lconst 0, 1, 0, 0, 0, 0, 0), some (.lstore_n 1, 1, 0, 0, 1, 0, 0), some (.iconst 0, 1, 0, 0, 0, 0, 0), some (.istore_n 3, 1, 0, 0, 3, 0, 0), some (.iload_n 3, 1, 0, 0, 3, 0, 0), some (.aload_n 0, 1, 0, 0, 0, 0, 0),
  some (.getfield 30, 3, 0, 0, 5, 4, 0), none, none, some (.if_icmp .ge 23, 3, 0, 0, 32, 0, 0), none, none,
  some (.lload_n 1, 1, 0, 0, 1, 0, 0), some (.aload_n 0, 1, 0, 0, 0, 0, 0), some (.getfield 15, 3, 0, 0, 5, 2, 0), none, none, some (.aload_n 0, 1, 0, 0, 0, 0, 0),
  some (.getfield 18, 3, 0, 0, 5, 3, 0), none, none, some (.iload_n 3, 1, 0, 0, 3, 0, 0), some (.iaload, 1, 0, 0, 0, 0, 0), some (.laload, 1, 0, 0, 0, 0, 0),
  some (.lor, 1, 0, 0, 0, 0, 0), some (.lstore_n 1, 1, 0, 0, 1, 0, 0), some (.iinc 3 1, 3, 1, 0, 3, 0, 0), none, none, some (.goto (-25), 3, 0, 0, 4, 0, 0),
  none, none, some (.lload_n 1, 1, 0, 0, 1, 0, 0), some (.lreturn, 1, 0, 0, 0, 0, 0)])
def zt_D_everything : zm_M := (⟨"QuadricFlats$Side", "everything", "()J"⟩, prog_7_method_9_code, 1, some .long, 0, false, 5, [
  some (.aload_n 0, 1, 0, 0, 0, 0, 0), some (.getfield 22, 3, 0, 0, 5, 0, 0), none, none, some (.bipush 64, 2, 64, 0, 0, 0, 0), none,
  some (.if_icmp .lt 9, 3, 0, 0, 15, 0, 0), none, none, some (.ldc2_w 37, 3, 0, (-1), 0, 0, 0), none, none,
  some (.goto 11, 3, 0, 0, 23, 0, 0), none, none, some (.lconst 1, 1, 0, 1, 0, 0, 0), some (.aload_n 0, 1, 0, 0, 0, 0, 0), some (.getfield 22, 3, 0, 0, 5, 0, 0),
  none, none, some (.lshl, 1, 0, 0, 0, 0, 0), some (.lconst 1, 1, 0, 1, 0, 0, 0), some (.lsub, 1, 0, 0, 0, 0, 0), some (.lreturn, 1, 0, 0, 0, 0, 0)])
def zt_X_letter : zm_M := (⟨"QuadricFlats", "letter", "(I)I"⟩, prog_1_method_2_code, 2, some .int, 1, false, 6, [
  some (.iload_n 1, 1, 0, 0, 1, 0, 0), some (.bipush 32, 2, 32, 0, 0, 0, 0), none, some (.if_icmp .lt 9, 3, 0, 0, 12, 0, 0), none, none,
  some (.iload_n 1, 1, 0, 0, 1, 0, 0), some (.bipush 126, 2, 126, 0, 0, 0, 0), none, some (.if_icmp .le 6, 3, 0, 0, 15, 0, 0), none, none,
  some (.bipush (-102), 2, (-102), 0, 0, 0, 0), none, some (.ireturn, 1, 0, 0, 0, 0, 0), some (.aload_n 0, 1, 0, 0, 0, 0, 0), some (.getfield 12, 3, 0, 0, 6, 0, 0), none,
  none, some (.getfield 62, 3, 0, 0, 2, 1, 0), none, none, some (.bipush 28, 2, 28, 0, 0, 0, 0), none,
  some (.if_icmp .lt 6, 3, 0, 0, 30, 0, 0), none, none, some (.bipush (-104), 2, (-104), 0, 0, 0, 0), none, some (.ireturn, 1, 0, 0, 0, 0, 0),
  some (.aload_n 0, 1, 0, 0, 0, 0, 0), some (.getfield 12, 3, 0, 0, 6, 0, 0), none, none, some (.iload_n 1, 1, 0, 0, 1, 0, 0), some (.invokevirtual 66, 3, 0, 0, 22, 1, 2),
  none, none, some (.aload_n 0, 1, 0, 0, 0, 0, 0), some (.getfield 12, 3, 0, 0, 6, 0, 0), none, none,
  some (.getfield 62, 3, 0, 0, 2, 1, 0), none, none, some (.ireturn, 1, 0, 0, 0, 0, 0)])
def zt_X_blank : zm_M := (⟨"QuadricFlats", "blank", "()I"⟩, prog_1_method_3_code, 2, some .int, 0, false, 6, [
  some (.aload_n 0, 1, 0, 0, 0, 0, 0), some (.getfield 12, 3, 0, 0, 6, 0, 0), none, none, some (.getfield 62, 3, 0, 0, 2, 1, 0), none,
  none, some (.istore_n 1, 1, 0, 0, 1, 0, 0), some (.aload_n 0, 1, 0, 0, 0, 0, 0), some (.getfield 12, 3, 0, 0, 6, 0, 0), none, none,
  some (.iconst 0, 1, 0, 0, 0, 0, 0), some (.putfield 62, 3, 0, 0, 2, 1, 0), none, none, some (.iload_n 1, 1, 0, 0, 1, 0, 0), some (.ireturn, 1, 0, 0, 0, 0, 0)])
def zt_X_fault : zm_M := (⟨"QuadricFlats", "fault", "()I"⟩, prog_1_method_4_code, 1, some .int, 0, false, 6, [
  some (.aload_n 0, 1, 0, 0, 0, 0, 0), some (.getfield 12, 3, 0, 0, 6, 0, 0), none, none, some (.invokevirtual 70, 3, 0, 0, 23, 0, 2), none,
  none, some (.ireturn, 1, 0, 0, 0, 0, 0)])
def zt_X_form : zm_M := (⟨"QuadricFlats", "form", "()I"⟩, prog_1_method_5_code, 1, some .int, 0, false, 6, [
  some (.aload_n 0, 1, 0, 0, 0, 0, 0), some (.getfield 12, 3, 0, 0, 6, 0, 0), none, none, some (.invokevirtual 74, 3, 0, 0, 24, 0, 2), none,
  none, some (.ifCond .ne 6, 3, 0, 0, 13, 0, 0), none, none, some (.bipush (-103), 2, (-103), 0, 0, 0, 0), none,
  some (.ireturn, 1, 0, 0, 0, 0, 0), some (.aload_n 0, 1, 0, 0, 0, 0, 0), some (.getfield 12, 3, 0, 0, 6, 0, 0), none, none, some (.aload_n 0, 1, 0, 0, 0, 0, 0),
  some (.getfield 19, 3, 0, 0, 6, 1, 0), none, none, some (.invokevirtual 78, 3, 0, 0, 29, 1, 2), none, none,
  some (.aload_n 0, 1, 0, 0, 0, 0, 0), some (.getfield 12, 3, 0, 0, 6, 0, 0), none, none, some (.iconst 0, 1, 0, 0, 0, 0, 0), some (.putfield 62, 3, 0, 0, 2, 1, 0),
  none, none, some (.aload_n 0, 1, 0, 0, 0, 0, 0), some (.dup, 1, 0, 0, 0, 0, 0), some (.getfield 82, 3, 0, 0, 6, 10, 0), none,
  none, some (.iconst 1, 1, 1, 0, 0, 0, 0), some (.iadd, 1, 0, 0, 0, 0, 0), some (.putfield 82, 3, 0, 0, 6, 10, 0), none, none,
  some (.aload_n 0, 1, 0, 0, 0, 0, 0), some (.getfield 29, 3, 0, 0, 6, 3, 0), none, none, some (.aload_n 0, 1, 0, 0, 0, 0, 0), some (.getfield 19, 3, 0, 0, 6, 1, 0),
  none, none, some (.invokevirtual 85, 3, 0, 0, 30, 1, 3), none, none, some (.aload_n 0, 1, 0, 0, 0, 0, 0),
  some (.invokevirtual 88, 3, 0, 0, 93, 0, 6), none, none, some (.aload_n 0, 1, 0, 0, 0, 0, 0), some (.getfield 29, 3, 0, 0, 6, 3, 0), none,
  none, some (.getfield 91, 3, 0, 0, 3, 2, 0), none, none, some (.ireturn, 1, 0, 0, 0, 0, 0)])
def zt_X_about : zm_M := (⟨"QuadricFlats", "about", "(I)I"⟩, prog_1_method_6_code, 2, some .int, 1, false, 6, [
  some (.iload_n 1, 1, 0, 0, 1, 0, 0), some (.ifCond .lt 9, 3, 0, 0, 10, 0, 0), none, none, some (.iload_n 1, 1, 0, 0, 1, 0, 0), some (.bipush 7, 2, 7, 0, 0, 0, 0),
  none, some (.if_icmp .le 6, 3, 0, 0, 13, 0, 0), none, none, some (.bipush (-102), 2, (-102), 0, 0, 0, 0), none,
  some (.ireturn, 1, 0, 0, 0, 0, 0), some (.aload_n 0, 1, 0, 0, 0, 0, 0), some (.invokevirtual 94, 3, 0, 0, 90, 0, 6), none, none, some (.ifCond .ne 6, 3, 0, 0, 23, 0, 0),
  none, none, some (.bipush (-103), 2, (-103), 0, 0, 0, 0), none, some (.ireturn, 1, 0, 0, 0, 0, 0), some (.iload_n 1, 1, 0, 0, 1, 0, 0),
  some (.tableswitch 100 0 6 #[44, 52, 60, 68, 76, 84, 92], 44, 0, 0, 0, 0, 0), none, none, none, none, none,
  none, none, none, none, none, none,
  none, none, none, none, none, none,
  none, none, none, none, none, none,
  none, none, none, none, none, none,
  none, none, none, none, none, none,
  none, none, none, none, none, none,
  none, none, some (.aload_n 0, 1, 0, 0, 0, 0, 0), some (.getfield 19, 3, 0, 0, 6, 1, 0), none, none,
  some (.getfield 97, 3, 0, 0, 1, 0, 0), none, none, some (.ireturn, 1, 0, 0, 0, 0, 0), some (.aload_n 0, 1, 0, 0, 0, 0, 0), some (.getfield 19, 3, 0, 0, 6, 1, 0),
  none, none, some (.getfield 100, 3, 0, 0, 1, 1, 0), none, none, some (.ireturn, 1, 0, 0, 0, 0, 0),
  some (.aload_n 0, 1, 0, 0, 0, 0, 0), some (.getfield 29, 3, 0, 0, 6, 3, 0), none, none, some (.getfield 91, 3, 0, 0, 3, 2, 0), none,
  none, some (.ireturn, 1, 0, 0, 0, 0, 0), some (.aload_n 0, 1, 0, 0, 0, 0, 0), some (.getfield 29, 3, 0, 0, 6, 3, 0), none, none,
  some (.getfield 103, 3, 0, 0, 3, 8, 0), none, none, some (.ireturn, 1, 0, 0, 0, 0, 0), some (.aload_n 0, 1, 0, 0, 0, 0, 0), some (.getfield 29, 3, 0, 0, 6, 3, 0),
  none, none, some (.getfield 106, 3, 0, 0, 3, 9, 0), none, none, some (.ireturn, 1, 0, 0, 0, 0, 0),
  some (.aload_n 0, 1, 0, 0, 0, 0, 0), some (.getfield 29, 3, 0, 0, 6, 3, 0), none, none, some (.invokevirtual 109, 3, 0, 0, 41, 0, 3), none,
  none, some (.ireturn, 1, 0, 0, 0, 0, 0), some (.aload_n 0, 1, 0, 0, 0, 0, 0), some (.getfield 19, 3, 0, 0, 6, 1, 0), none, none,
  some (.invokevirtual 112, 3, 0, 0, 17, 0, 1), none, none, some (.ireturn, 1, 0, 0, 0, 0, 0), some (.aload_n 0, 1, 0, 0, 0, 0, 0), some (.getfield 29, 3, 0, 0, 6, 3, 0),
  none, none, some (.invokevirtual 115, 3, 0, 0, 42, 0, 3), none, none, some (.ireturn, 1, 0, 0, 0, 0, 0)])
def zt_X_coefficient : zm_M := (⟨"QuadricFlats", "coefficient", "(II)I"⟩, prog_1_method_7_code, 3, some .int, 2, false, 6, [
  some (.aload_n 0, 1, 0, 0, 0, 0, 0), some (.getfield 19, 3, 0, 0, 6, 1, 0), none, none, some (.iload_n 1, 1, 0, 0, 1, 0, 0), some (.invokevirtual 118, 3, 0, 0, 9, 1, 1),
  none, none, some (.ifCond .eq 14, 3, 0, 0, 22, 0, 0), none, none, some (.aload_n 0, 1, 0, 0, 0, 0, 0),
  some (.getfield 19, 3, 0, 0, 6, 1, 0), none, none, some (.iload_n 2, 1, 0, 0, 2, 0, 0), some (.invokevirtual 118, 3, 0, 0, 9, 1, 1), none,
  none, some (.ifCond .ne 6, 3, 0, 0, 25, 0, 0), none, none, some (.bipush (-101), 2, (-101), 0, 0, 0, 0), none,
  some (.ireturn, 1, 0, 0, 0, 0, 0), some (.aload_n 0, 1, 0, 0, 0, 0, 0), some (.getfield 19, 3, 0, 0, 6, 1, 0), none, none, some (.iload_n 1, 1, 0, 0, 1, 0, 0),
  some (.iload_n 2, 1, 0, 0, 2, 0, 0), some (.invokevirtual 122, 3, 0, 0, 10, 2, 1), none, none, some (.ireturn, 1, 0, 0, 0, 0, 0)])
def zt_X_point : zm_M := (⟨"QuadricFlats", "point", "(II)I"⟩, prog_1_method_8_code, 3, some .int, 2, false, 6, [
  some (.aload_n 0, 1, 0, 0, 0, 0, 0), some (.iload_n 1, 1, 0, 0, 1, 0, 0), some (.invokevirtual 126, 3, 0, 0, 94, 1, 6), none, none, some (.ifCond .eq 14, 3, 0, 0, 19, 0, 0),
  none, none, some (.aload_n 0, 1, 0, 0, 0, 0, 0), some (.getfield 19, 3, 0, 0, 6, 1, 0), none, none,
  some (.iload_n 2, 1, 0, 0, 2, 0, 0), some (.invokevirtual 118, 3, 0, 0, 9, 1, 1), none, none, some (.ifCond .ne 6, 3, 0, 0, 22, 0, 0), none,
  none, some (.bipush (-101), 2, (-101), 0, 0, 0, 0), none, some (.ireturn, 1, 0, 0, 0, 0, 0), some (.aload_n 0, 1, 0, 0, 0, 0, 0), some (.getfield 29, 3, 0, 0, 6, 3, 0),
  none, none, some (.getfield 129, 3, 0, 0, 3, 3, 0), none, none, some (.iload_n 1, 1, 0, 0, 1, 0, 0),
  some (.bipush 6, 2, 6, 0, 0, 0, 0), none, some (.imul, 1, 0, 0, 0, 0, 0), some (.iload_n 2, 1, 0, 0, 2, 0, 0), some (.iadd, 1, 0, 0, 0, 0, 0), some (.iaload, 1, 0, 0, 0, 0, 0),
  some (.ireturn, 1, 0, 0, 0, 0, 0)])
def zt_X_value : zm_M := (⟨"QuadricFlats", "value", "(I)I"⟩, prog_1_method_9_code, 2, some .int, 1, false, 6, [
  some (.aload_n 0, 1, 0, 0, 0, 0, 0), some (.iload_n 1, 1, 0, 0, 1, 0, 0), some (.invokevirtual 126, 3, 0, 0, 94, 1, 6), none, none, some (.ifCond .ne 6, 3, 0, 0, 11, 0, 0),
  none, none, some (.bipush (-101), 2, (-101), 0, 0, 0, 0), none, some (.ireturn, 1, 0, 0, 0, 0, 0), some (.aload_n 0, 1, 0, 0, 0, 0, 0),
  some (.getfield 29, 3, 0, 0, 6, 3, 0), none, none, some (.getfield 133, 3, 0, 0, 3, 5, 0), none, none,
  some (.iload_n 1, 1, 0, 0, 1, 0, 0), some (.iaload, 1, 0, 0, 0, 0, 0), some (.ireturn, 1, 0, 0, 0, 0, 0)])
def zt_X_polar : zm_M := (⟨"QuadricFlats", "polar", "(II)I"⟩, prog_1_method_10_code, 3, some .int, 2, false, 6, [
  some (.aload_n 0, 1, 0, 0, 0, 0, 0), some (.iload_n 1, 1, 0, 0, 1, 0, 0), some (.invokevirtual 126, 3, 0, 0, 94, 1, 6), none, none, some (.ifCond .eq 11, 3, 0, 0, 16, 0, 0),
  none, none, some (.aload_n 0, 1, 0, 0, 0, 0, 0), some (.iload_n 2, 1, 0, 0, 2, 0, 0), some (.invokevirtual 126, 3, 0, 0, 94, 1, 6), none,
  none, some (.ifCond .ne 6, 3, 0, 0, 19, 0, 0), none, none, some (.bipush (-101), 2, (-101), 0, 0, 0, 0), none,
  some (.ireturn, 1, 0, 0, 0, 0, 0), some (.aload_n 0, 1, 0, 0, 0, 0, 0), some (.getfield 29, 3, 0, 0, 6, 3, 0), none, none, some (.aload_n 0, 1, 0, 0, 0, 0, 0),
  some (.getfield 29, 3, 0, 0, 6, 3, 0), none, none, some (.getfield 136, 3, 0, 0, 3, 4, 0), none, none,
  some (.iload_n 1, 1, 0, 0, 1, 0, 0), some (.iload_n 2, 1, 0, 0, 2, 0, 0), some (.invokevirtual 139, 3, 0, 0, 37, 3, 3), none, none, some (.ireturn, 1, 0, 0, 0, 0, 0)])
def zt_X_joined : zm_M := (⟨"QuadricFlats", "joined", "(II)I"⟩, prog_1_method_11_code, 3, some .int, 2, false, 6, [
  some (.aload_n 0, 1, 0, 0, 0, 0, 0), some (.iload_n 1, 1, 0, 0, 1, 0, 0), some (.invokevirtual 126, 3, 0, 0, 94, 1, 6), none, none, some (.ifCond .eq 11, 3, 0, 0, 16, 0, 0),
  none, none, some (.aload_n 0, 1, 0, 0, 0, 0, 0), some (.iload_n 2, 1, 0, 0, 2, 0, 0), some (.invokevirtual 126, 3, 0, 0, 94, 1, 6), none,
  none, some (.ifCond .ne 6, 3, 0, 0, 19, 0, 0), none, none, some (.bipush (-101), 2, (-101), 0, 0, 0, 0), none,
  some (.ireturn, 1, 0, 0, 0, 0, 0), some (.aload_n 0, 1, 0, 0, 0, 0, 0), some (.getfield 29, 3, 0, 0, 6, 3, 0), none, none, some (.iload_n 1, 1, 0, 0, 1, 0, 0),
  some (.iload_n 2, 1, 0, 0, 2, 0, 0), some (.invokevirtual 143, 3, 0, 0, 38, 2, 3), none, none, some (.ifCond .eq 7, 3, 0, 0, 35, 0, 0), none,
  none, some (.iconst 1, 1, 1, 0, 0, 0, 0), some (.goto 4, 3, 0, 0, 36, 0, 0), none, none, some (.iconst 0, 1, 0, 0, 0, 0, 0),
  some (.ireturn, 1, 0, 0, 0, 0, 0)])
def zt_X_section : zm_M := (⟨"QuadricFlats", "section", "(II)I"⟩, prog_1_method_12_code, 3, some .int, 2, false, 6, [
  some (.aload_n 0, 1, 0, 0, 0, 0, 0), some (.iload_n 1, 1, 0, 0, 1, 0, 0), some (.invokevirtual 126, 3, 0, 0, 94, 1, 6), none, none, some (.ifCond .ne 6, 3, 0, 0, 11, 0, 0),
  none, none, some (.bipush (-101), 2, (-101), 0, 0, 0, 0), none, some (.ireturn, 1, 0, 0, 0, 0, 0), some (.iload_n 2, 1, 0, 0, 2, 0, 0),
  some (.ifCond .eq 11, 3, 0, 0, 23, 0, 0), none, none, some (.iload_n 2, 1, 0, 0, 2, 0, 0), some (.iconst 1, 1, 1, 0, 0, 0, 0), some (.if_icmp .eq 6, 3, 0, 0, 23, 0, 0),
  none, none, some (.bipush (-102), 2, (-102), 0, 0, 0, 0), none, some (.ireturn, 1, 0, 0, 0, 0, 0), some (.iload_n 2, 1, 0, 0, 2, 0, 0),
  some (.ifCond .ne 14, 3, 0, 0, 38, 0, 0), none, none, some (.aload_n 0, 1, 0, 0, 0, 0, 0), some (.getfield 29, 3, 0, 0, 6, 3, 0), none,
  none, some (.iload_n 1, 1, 0, 0, 1, 0, 0), some (.invokevirtual 147, 3, 0, 0, 39, 1, 3), none, none, some (.goto 11, 3, 0, 0, 46, 0, 0),
  none, none, some (.aload_n 0, 1, 0, 0, 0, 0, 0), some (.getfield 29, 3, 0, 0, 6, 3, 0), none, none,
  some (.iload_n 1, 1, 0, 0, 1, 0, 0), some (.invokevirtual 151, 3, 0, 0, 40, 1, 3), none, none, some (.ireturn, 1, 0, 0, 0, 0, 0)])
def zt_X_flats : zm_M := (⟨"QuadricFlats", "flats", "(I)I"⟩, prog_1_method_13_code, 2, some .int, 1, false, 6, [
  some (.iload_n 1, 1, 0, 0, 1, 0, 0), some (.iconst 1, 1, 1, 0, 0, 0, 0), some (.if_icmp .lt 8, 3, 0, 0, 10, 0, 0), none, none, some (.iload_n 1, 1, 0, 0, 1, 0, 0),
  some (.iconst 3, 1, 3, 0, 0, 0, 0), some (.if_icmp .le 6, 3, 0, 0, 13, 0, 0), none, none, some (.bipush (-102), 2, (-102), 0, 0, 0, 0), none,
  some (.ireturn, 1, 0, 0, 0, 0, 0), some (.aload_n 0, 1, 0, 0, 0, 0, 0), some (.invokevirtual 154, 3, 0, 0, 91, 0, 6), none, none, some (.ifCond .ne 6, 3, 0, 0, 23, 0, 0),
  none, none, some (.bipush (-103), 2, (-103), 0, 0, 0, 0), none, some (.ireturn, 1, 0, 0, 0, 0, 0), some (.aload_n 0, 1, 0, 0, 0, 0, 0),
  some (.getfield 36, 3, 0, 0, 6, 4, 0), none, none, some (.iload_n 1, 1, 0, 0, 1, 0, 0), some (.invokevirtual 157, 3, 0, 0, 7, 1, 0), none,
  none, some (.ireturn, 1, 0, 0, 0, 0, 0)])
def zt_X_flat : zm_M := (⟨"QuadricFlats", "flat", "(III)I"⟩, prog_1_method_14_code, 7, some .int, 3, false, 6, [
  some (.iload_n 1, 1, 0, 0, 1, 0, 0), some (.iconst 1, 1, 1, 0, 0, 0, 0), some (.if_icmp .lt 8, 3, 0, 0, 10, 0, 0), none, none, some (.iload_n 1, 1, 0, 0, 1, 0, 0),
  some (.iconst 3, 1, 3, 0, 0, 0, 0), some (.if_icmp .le 6, 3, 0, 0, 13, 0, 0), none, none, some (.bipush (-102), 2, (-102), 0, 0, 0, 0), none,
  some (.ireturn, 1, 0, 0, 0, 0, 0), some (.aload_n 0, 1, 0, 0, 0, 0, 0), some (.invokevirtual 154, 3, 0, 0, 91, 0, 6), none, none, some (.ifCond .ne 6, 3, 0, 0, 23, 0, 0),
  none, none, some (.bipush (-103), 2, (-103), 0, 0, 0, 0), none, some (.ireturn, 1, 0, 0, 0, 0, 0), some (.iload_n 2, 1, 0, 0, 2, 0, 0),
  some (.ifCond .lt 15, 3, 0, 0, 39, 0, 0), none, none, some (.iload_n 2, 1, 0, 0, 2, 0, 0), some (.aload_n 0, 1, 0, 0, 0, 0, 0), some (.getfield 36, 3, 0, 0, 6, 4, 0),
  none, none, some (.iload_n 1, 1, 0, 0, 1, 0, 0), some (.invokevirtual 157, 3, 0, 0, 7, 1, 0), none, none,
  some (.if_icmp .lt 6, 3, 0, 0, 42, 0, 0), none, none, some (.bipush (-101), 2, (-101), 0, 0, 0, 0), none, some (.ireturn, 1, 0, 0, 0, 0, 0),
  some (.aload_n 0, 1, 0, 0, 0, 0, 0), some (.getfield 36, 3, 0, 0, 6, 4, 0), none, none, some (.iload_n 1, 1, 0, 0, 1, 0, 0), some (.iload_n 2, 1, 0, 0, 2, 0, 0),
  some (.invokevirtual 160, 3, 0, 0, 8, 2, 0), none, none, some (.lstore 4, 2, 0, 0, 4, 0, 0), none, some (.iload_n 3, 1, 0, 0, 3, 0, 0),
  some (.ifCond .lt 12, 3, 0, 0, 66, 0, 0), none, none, some (.iload_n 3, 1, 0, 0, 3, 0, 0), some (.lload 4, 2, 0, 0, 4, 0, 0), none,
  some (.invokestatic 164, 3, 0, 0, 216, 1, 0), none, none, some (.if_icmp .lt 6, 3, 0, 0, 69, 0, 0), none, none,
  some (.bipush (-101), 2, (-101), 0, 0, 0, 0), none, some (.ireturn, 1, 0, 0, 0, 0, 0), some (.iconst 0, 1, 0, 0, 0, 0, 0), some (.istore 6, 2, 0, 0, 6, 0, 0), none,
  some (.iload 6, 2, 0, 0, 6, 0, 0), none, some (.iload_n 3, 1, 0, 0, 3, 0, 0), some (.if_icmp .ge 18, 3, 0, 0, 93, 0, 0), none, none,
  some (.lload 4, 2, 0, 0, 4, 0, 0), none, some (.lload 4, 2, 0, 0, 4, 0, 0), none, some (.lconst 1, 1, 0, 1, 0, 0, 0), some (.lsub, 1, 0, 0, 0, 0, 0),
  some (.land, 1, 0, 0, 0, 0, 0), some (.lstore 4, 2, 0, 0, 4, 0, 0), none, some (.iinc 6 1, 3, 1, 0, 6, 0, 0), none, none,
  some (.goto (-18), 3, 0, 0, 72, 0, 0), none, none, some (.aload_n 0, 1, 0, 0, 0, 0, 0), some (.getfield 29, 3, 0, 0, 6, 3, 0), none,
  none, some (.getfield 170, 3, 0, 0, 3, 6, 0), none, none, some (.lload 4, 2, 0, 0, 4, 0, 0), none,
  some (.invokestatic 173, 3, 0, 0, 106, 1, 0), none, none, some (.iaload, 1, 0, 0, 0, 0, 0), some (.ireturn, 1, 0, 0, 0, 0, 0)])
def zt_X_near : zm_M := (⟨"QuadricFlats", "near", "(III)I"⟩, prog_1_method_15_code, 7, some .int, 3, false, 6, [
  some (.aload_n 0, 1, 0, 0, 0, 0, 0), some (.invokevirtual 154, 3, 0, 0, 91, 0, 6), none, none, some (.ifCond .ne 6, 3, 0, 0, 10, 0, 0), none,
  none, some (.bipush (-103), 2, (-103), 0, 0, 0, 0), none, some (.ireturn, 1, 0, 0, 0, 0, 0), some (.aload_n 0, 1, 0, 0, 0, 0, 0), some (.iload_n 1, 1, 0, 0, 1, 0, 0),
  some (.invokevirtual 176, 3, 0, 0, 95, 1, 6), none, none, some (.ifCond .eq 11, 3, 0, 0, 26, 0, 0), none, none,
  some (.aload_n 0, 1, 0, 0, 0, 0, 0), some (.iload_n 2, 1, 0, 0, 2, 0, 0), some (.invokevirtual 179, 3, 0, 0, 96, 1, 6), none, none, some (.ifCond .ne 6, 3, 0, 0, 29, 0, 0),
  none, none, some (.bipush (-101), 2, (-101), 0, 0, 0, 0), none, some (.ireturn, 1, 0, 0, 0, 0, 0), some (.iload_n 3, 1, 0, 0, 3, 0, 0),
  some (.ifCond .eq 11, 3, 0, 0, 41, 0, 0), none, none, some (.iload_n 3, 1, 0, 0, 3, 0, 0), some (.iconst 1, 1, 1, 0, 0, 0, 0), some (.if_icmp .eq 6, 3, 0, 0, 41, 0, 0),
  none, none, some (.bipush (-102), 2, (-102), 0, 0, 0, 0), none, some (.ireturn, 1, 0, 0, 0, 0, 0), some (.aload_n 0, 1, 0, 0, 0, 0, 0),
  some (.getfield 29, 3, 0, 0, 6, 3, 0), none, none, some (.getfield 182, 3, 0, 0, 3, 7, 0), none, none,
  some (.iload_n 1, 1, 0, 0, 1, 0, 0), some (.iaload, 1, 0, 0, 0, 0, 0), some (.istore 4, 2, 0, 0, 4, 0, 0), none, some (.aload_n 0, 1, 0, 0, 0, 0, 0), some (.getfield 47, 3, 0, 0, 6, 6, 0),
  none, none, some (.getfield 185, 3, 0, 0, 5, 1, 0), none, none, some (.iload_n 2, 1, 0, 0, 2, 0, 0),
  some (.laload, 1, 0, 0, 0, 0, 0), some (.aload_n 0, 1, 0, 0, 0, 0, 0), some (.getfield 36, 3, 0, 0, 6, 4, 0), none, none, some (.getfield 189, 3, 0, 0, 0, 0, 0),
  none, none, some (.iload 4, 2, 0, 0, 4, 0, 0), none, some (.laload, 1, 0, 0, 0, 0, 0), some (.land, 1, 0, 0, 0, 0, 0),
  some (.lstore 5, 2, 0, 0, 5, 0, 0), none, some (.iload_n 3, 1, 0, 0, 3, 0, 0), some (.ifCond .ne 9, 3, 0, 0, 84, 0, 0), none, none,
  some (.lload 5, 2, 0, 0, 5, 0, 0), none, some (.invokestatic 164, 3, 0, 0, 216, 1, 0), none, none, some (.ireturn, 1, 0, 0, 0, 0, 0),
  some (.lload 5, 2, 0, 0, 5, 0, 0), none, some (.lconst 0, 1, 0, 0, 0, 0, 0), some (.lcmp, 1, 0, 0, 0, 0, 0), some (.ifCond .ne 7, 3, 0, 0, 95, 0, 0), none,
  none, some (.iconst (-1), 1, (-1), 0, 0, 0, 0), some (.goto 16, 3, 0, 0, 108, 0, 0), none, none, some (.aload_n 0, 1, 0, 0, 0, 0, 0),
  some (.getfield 29, 3, 0, 0, 6, 3, 0), none, none, some (.getfield 170, 3, 0, 0, 3, 6, 0), none, none,
  some (.lload 5, 2, 0, 0, 5, 0, 0), none, some (.invokestatic 173, 3, 0, 0, 106, 1, 0), none, none, some (.iaload, 1, 0, 0, 0, 0, 0),
  some (.ireturn, 1, 0, 0, 0, 0, 0)])
def zt_X_pick : zm_M := (⟨"QuadricFlats", "pick", "(I)I"⟩, prog_1_method_16_code, 3, some .int, 1, false, 6, [
  some (.aload_n 0, 1, 0, 0, 0, 0, 0), some (.invokevirtual 154, 3, 0, 0, 91, 0, 6), none, none, some (.ifCond .ne 6, 3, 0, 0, 10, 0, 0), none,
  none, some (.bipush (-103), 2, (-103), 0, 0, 0, 0), none, some (.ireturn, 1, 0, 0, 0, 0, 0), some (.aload_n 0, 1, 0, 0, 0, 0, 0), some (.iload_n 1, 1, 0, 0, 1, 0, 0),
  some (.invokevirtual 176, 3, 0, 0, 95, 1, 6), none, none, some (.ifCond .ne 6, 3, 0, 0, 21, 0, 0), none, none,
  some (.bipush (-101), 2, (-101), 0, 0, 0, 0), none, some (.ireturn, 1, 0, 0, 0, 0, 0), some (.aload_n 0, 1, 0, 0, 0, 0, 0), some (.getfield 29, 3, 0, 0, 6, 3, 0), none,
  none, some (.getfield 182, 3, 0, 0, 3, 7, 0), none, none, some (.iload_n 1, 1, 0, 0, 1, 0, 0), some (.iaload, 1, 0, 0, 0, 0, 0),
  some (.istore_n 2, 1, 0, 0, 2, 0, 0), some (.aload_n 0, 1, 0, 0, 0, 0, 0), some (.getfield 43, 3, 0, 0, 6, 5, 0), none, none, some (.iload_n 2, 1, 0, 0, 2, 0, 0),
  some (.invokevirtual 192, 3, 0, 0, 49, 1, 5), none, none, some (.ifCond .eq 6, 3, 0, 0, 45, 0, 0), none, none,
  some (.bipush (-103), 2, (-103), 0, 0, 0, 0), none, some (.ireturn, 1, 0, 0, 0, 0, 0), some (.aload_n 0, 1, 0, 0, 0, 0, 0), some (.getfield 43, 3, 0, 0, 6, 5, 0), none,
  none, some (.iload_n 2, 1, 0, 0, 2, 0, 0), some (.invokevirtual 195, 3, 0, 0, 50, 1, 5), none, none, some (.aload_n 0, 1, 0, 0, 0, 0, 0),
  some (.getfield 43, 3, 0, 0, 6, 5, 0), none, none, some (.getfield 196, 3, 0, 0, 5, 4, 0), none, none,
  some (.ireturn, 1, 0, 0, 0, 0, 0)])
def zt_X_gather : zm_M := (⟨"QuadricFlats", "gather", "(I)I"⟩, prog_1_method_17_code, 2, some .int, 1, false, 6, [
  some (.aload_n 0, 1, 0, 0, 0, 0, 0), some (.invokevirtual 154, 3, 0, 0, 91, 0, 6), none, none, some (.ifCond .ne 6, 3, 0, 0, 10, 0, 0), none,
  none, some (.bipush (-103), 2, (-103), 0, 0, 0, 0), none, some (.ireturn, 1, 0, 0, 0, 0, 0), some (.aload_n 0, 1, 0, 0, 0, 0, 0), some (.iload_n 1, 1, 0, 0, 1, 0, 0),
  some (.invokevirtual 179, 3, 0, 0, 96, 1, 6), none, none, some (.ifCond .ne 6, 3, 0, 0, 21, 0, 0), none, none,
  some (.bipush (-101), 2, (-101), 0, 0, 0, 0), none, some (.ireturn, 1, 0, 0, 0, 0, 0), some (.aload_n 0, 1, 0, 0, 0, 0, 0), some (.getfield 47, 3, 0, 0, 6, 6, 0), none,
  none, some (.iload_n 1, 1, 0, 0, 1, 0, 0), some (.invokevirtual 192, 3, 0, 0, 49, 1, 5), none, none, some (.ifCond .eq 6, 3, 0, 0, 35, 0, 0),
  none, none, some (.bipush (-103), 2, (-103), 0, 0, 0, 0), none, some (.ireturn, 1, 0, 0, 0, 0, 0), some (.aload_n 0, 1, 0, 0, 0, 0, 0),
  some (.getfield 47, 3, 0, 0, 6, 6, 0), none, none, some (.iload_n 1, 1, 0, 0, 1, 0, 0), some (.invokevirtual 195, 3, 0, 0, 50, 1, 5), none,
  none, some (.aload_n 0, 1, 0, 0, 0, 0, 0), some (.getfield 47, 3, 0, 0, 6, 6, 0), none, none, some (.getfield 196, 3, 0, 0, 5, 4, 0),
  none, none, some (.ireturn, 1, 0, 0, 0, 0, 0)])
def zt_X_drop : zm_M := (⟨"QuadricFlats", "drop", "(I)I"⟩, prog_1_method_18_code, 4, some .int, 1, false, 6, [
  some (.iload_n 1, 1, 0, 0, 1, 0, 0), some (.ifCond .eq 11, 3, 0, 0, 12, 0, 0), none, none, some (.iload_n 1, 1, 0, 0, 1, 0, 0), some (.iconst 1, 1, 1, 0, 0, 0, 0),
  some (.if_icmp .eq 6, 3, 0, 0, 12, 0, 0), none, none, some (.bipush (-102), 2, (-102), 0, 0, 0, 0), none, some (.ireturn, 1, 0, 0, 0, 0, 0),
  some (.aload_n 0, 1, 0, 0, 0, 0, 0), some (.iload_n 1, 1, 0, 0, 1, 0, 0), some (.invokevirtual 197, 3, 0, 0, 99, 1, 6), none, none, some (.astore_n 2, 1, 0, 0, 2, 0, 0),
  some (.aload_n 2, 1, 0, 0, 2, 0, 0), some (.getfield 196, 3, 0, 0, 5, 4, 0), none, none, some (.ifCond .ne 6, 3, 0, 0, 28, 0, 0), none,
  none, some (.bipush (-103), 2, (-103), 0, 0, 0, 0), none, some (.ireturn, 1, 0, 0, 0, 0, 0), some (.aload_n 0, 1, 0, 0, 0, 0, 0), some (.iload_n 1, 1, 0, 0, 1, 0, 0),
  some (.aload_n 2, 1, 0, 0, 2, 0, 0), some (.getfield 196, 3, 0, 0, 5, 4, 0), none, none, some (.iconst 1, 1, 1, 0, 0, 0, 0), some (.isub, 1, 0, 0, 0, 0, 0),
  some (.invokevirtual 201, 3, 0, 0, 101, 2, 6), none, none, some (.istore_n 3, 1, 0, 0, 3, 0, 0), some (.aload_n 2, 1, 0, 0, 2, 0, 0), some (.dup, 1, 0, 0, 0, 0, 0),
  some (.getfield 196, 3, 0, 0, 5, 4, 0), none, none, some (.iconst 1, 1, 1, 0, 0, 0, 0), some (.isub, 1, 0, 0, 0, 0, 0), some (.putfield 196, 3, 0, 0, 5, 4, 0),
  none, none, some (.iload_n 3, 1, 0, 0, 3, 0, 0), some (.ireturn, 1, 0, 0, 0, 0, 0)])
def zt_X_chosen : zm_M := (⟨"QuadricFlats", "chosen", "(II)I"⟩, prog_1_method_19_code, 3, some .int, 2, false, 6, [
  some (.iload_n 1, 1, 0, 0, 1, 0, 0), some (.ifCond .eq 11, 3, 0, 0, 12, 0, 0), none, none, some (.iload_n 1, 1, 0, 0, 1, 0, 0), some (.iconst 1, 1, 1, 0, 0, 0, 0),
  some (.if_icmp .eq 6, 3, 0, 0, 12, 0, 0), none, none, some (.bipush (-102), 2, (-102), 0, 0, 0, 0), none, some (.ireturn, 1, 0, 0, 0, 0, 0),
  some (.iload_n 2, 1, 0, 0, 2, 0, 0), some (.ifCond .lt 15, 3, 0, 0, 28, 0, 0), none, none, some (.iload_n 2, 1, 0, 0, 2, 0, 0), some (.aload_n 0, 1, 0, 0, 0, 0, 0),
  some (.iload_n 1, 1, 0, 0, 1, 0, 0), some (.invokevirtual 197, 3, 0, 0, 99, 1, 6), none, none, some (.getfield 196, 3, 0, 0, 5, 4, 0), none,
  none, some (.if_icmp .lt 6, 3, 0, 0, 31, 0, 0), none, none, some (.bipush (-101), 2, (-101), 0, 0, 0, 0), none,
  some (.ireturn, 1, 0, 0, 0, 0, 0), some (.aload_n 0, 1, 0, 0, 0, 0, 0), some (.iload_n 1, 1, 0, 0, 1, 0, 0), some (.iload_n 2, 1, 0, 0, 2, 0, 0), some (.invokevirtual 201, 3, 0, 0, 101, 2, 6), none,
  none, some (.ireturn, 1, 0, 0, 0, 0, 0)])
def zt_X_left : zm_M := (⟨"QuadricFlats", "left", "(I)I"⟩, prog_1_method_20_code, 2, some .int, 1, false, 6, [
  some (.iload_n 1, 1, 0, 0, 1, 0, 0), some (.ifCond .eq 11, 3, 0, 0, 12, 0, 0), none, none, some (.iload_n 1, 1, 0, 0, 1, 0, 0), some (.iconst 1, 1, 1, 0, 0, 0, 0),
  some (.if_icmp .eq 6, 3, 0, 0, 12, 0, 0), none, none, some (.bipush (-102), 2, (-102), 0, 0, 0, 0), none, some (.ireturn, 1, 0, 0, 0, 0, 0),
  some (.aload_n 0, 1, 0, 0, 0, 0, 0), some (.invokevirtual 154, 3, 0, 0, 91, 0, 6), none, none, some (.ifCond .ne 6, 3, 0, 0, 22, 0, 0), none,
  none, some (.bipush (-103), 2, (-103), 0, 0, 0, 0), none, some (.ireturn, 1, 0, 0, 0, 0, 0), some (.aload_n 0, 1, 0, 0, 0, 0, 0), some (.iload_n 1, 1, 0, 0, 1, 0, 0),
  some (.invokevirtual 204, 3, 0, 0, 102, 1, 6), none, none, some (.ireturn, 1, 0, 0, 0, 0, 0)])
def zt_X_finish : zm_M := (⟨"QuadricFlats", "finish", "(I)I"⟩, prog_1_method_21_code, 5, some .int, 1, false, 6, [
  some (.iload_n 1, 1, 0, 0, 1, 0, 0), some (.ifCond .eq 11, 3, 0, 0, 12, 0, 0), none, none, some (.iload_n 1, 1, 0, 0, 1, 0, 0), some (.iconst 1, 1, 1, 0, 0, 0, 0),
  some (.if_icmp .eq 6, 3, 0, 0, 12, 0, 0), none, none, some (.bipush (-102), 2, (-102), 0, 0, 0, 0), none, some (.ireturn, 1, 0, 0, 0, 0, 0),
  some (.aload_n 0, 1, 0, 0, 0, 0, 0), some (.invokevirtual 154, 3, 0, 0, 91, 0, 6), none, none, some (.ifCond .eq 12, 3, 0, 0, 28, 0, 0), none,
  none, some (.aload_n 0, 1, 0, 0, 0, 0, 0), some (.getfield 207, 3, 0, 0, 6, 11, 0), none, none, some (.bipush 20, 2, 20, 0, 0, 0, 0),
  none, some (.if_icmp .lt 6, 3, 0, 0, 31, 0, 0), none, none, some (.bipush (-103), 2, (-103), 0, 0, 0, 0), none,
  some (.ireturn, 1, 0, 0, 0, 0, 0), some (.aload_n 0, 1, 0, 0, 0, 0, 0), some (.dup, 1, 0, 0, 0, 0, 0), some (.getfield 207, 3, 0, 0, 6, 11, 0), none, none,
  some (.iconst 1, 1, 1, 0, 0, 0, 0), some (.iadd, 1, 0, 0, 0, 0, 0), some (.putfield 207, 3, 0, 0, 6, 11, 0), none, none, some (.aload_n 0, 1, 0, 0, 0, 0, 0),
  some (.iload_n 1, 1, 0, 0, 1, 0, 0), some (.invokevirtual 197, 3, 0, 0, 99, 1, 6), none, none, some (.astore_n 2, 1, 0, 0, 2, 0, 0), some (.aload_n 0, 1, 0, 0, 0, 0, 0),
  some (.iload_n 1, 1, 0, 0, 1, 0, 0), some (.invokevirtual 210, 3, 0, 0, 100, 1, 6), none, none, some (.astore_n 3, 1, 0, 0, 3, 0, 0), some (.aload_n 3, 1, 0, 0, 3, 0, 0),
  some (.invokevirtual 214, 3, 0, 0, 44, 0, 4), none, none, some (.aload_n 3, 1, 0, 0, 3, 0, 0), some (.getfield 217, 3, 0, 0, 4, 2, 0), none,
  none, some (.ifCond .ne 5, 3, 0, 0, 66, 0, 0), none, none, some (.iconst (-1), 1, (-1), 0, 0, 0, 0), some (.ireturn, 1, 0, 0, 0, 0, 0),
  some (.aload_n 2, 1, 0, 0, 2, 0, 0), some (.getfield 196, 3, 0, 0, 5, 4, 0), none, none, some (.istore 4, 2, 0, 0, 4, 0, 0), none,
  some (.aload_n 2, 1, 0, 0, 2, 0, 0), some (.aload_n 3, 1, 0, 0, 3, 0, 0), some (.getfield 220, 3, 0, 0, 4, 3, 0), none, none, some (.aload_n 2, 1, 0, 0, 2, 0, 0),
  some (.invokevirtual 224, 3, 0, 0, 52, 0, 5), none, none, some (.ldc2_w 228, 3, 0, (-1), 0, 0, 0), none, none,
  some (.lxor, 1, 0, 0, 0, 0, 0), some (.land, 1, 0, 0, 0, 0, 0), some (.invokevirtual 230, 3, 0, 0, 51, 1, 5), none, none, some (.aload_n 2, 1, 0, 0, 2, 0, 0),
  some (.getfield 196, 3, 0, 0, 5, 4, 0), none, none, some (.iload 4, 2, 0, 0, 4, 0, 0), none, some (.isub, 1, 0, 0, 0, 0, 0),
  some (.ireturn, 1, 0, 0, 0, 0, 0)])
def zt_X_ways : zm_M := (⟨"QuadricFlats", "ways", "(I)I"⟩, prog_1_method_22_code, 3, some .int, 1, false, 6, [
  some (.iload_n 1, 1, 0, 0, 1, 0, 0), some (.ifCond .eq 11, 3, 0, 0, 12, 0, 0), none, none, some (.iload_n 1, 1, 0, 0, 1, 0, 0), some (.iconst 1, 1, 1, 0, 0, 0, 0),
  some (.if_icmp .eq 6, 3, 0, 0, 12, 0, 0), none, none, some (.bipush (-102), 2, (-102), 0, 0, 0, 0), none, some (.ireturn, 1, 0, 0, 0, 0, 0),
  some (.aload_n 0, 1, 0, 0, 0, 0, 0), some (.invokevirtual 154, 3, 0, 0, 91, 0, 6), none, none, some (.ifCond .eq 12, 3, 0, 0, 28, 0, 0), none,
  none, some (.aload_n 0, 1, 0, 0, 0, 0, 0), some (.getfield 234, 3, 0, 0, 6, 12, 0), none, none, some (.bipush 12, 2, 12, 0, 0, 0, 0),
  none, some (.if_icmp .lt 6, 3, 0, 0, 31, 0, 0), none, none, some (.bipush (-103), 2, (-103), 0, 0, 0, 0), none,
  some (.ireturn, 1, 0, 0, 0, 0, 0), some (.aload_n 0, 1, 0, 0, 0, 0, 0), some (.dup, 1, 0, 0, 0, 0, 0), some (.getfield 234, 3, 0, 0, 6, 12, 0), none, none,
  some (.iconst 1, 1, 1, 0, 0, 0, 0), some (.iadd, 1, 0, 0, 0, 0, 0), some (.putfield 234, 3, 0, 0, 6, 12, 0), none, none, some (.aload_n 0, 1, 0, 0, 0, 0, 0),
  some (.iload_n 1, 1, 0, 0, 1, 0, 0), some (.invokevirtual 210, 3, 0, 0, 100, 1, 6), none, none, some (.astore_n 2, 1, 0, 0, 2, 0, 0), some (.aload_n 2, 1, 0, 0, 2, 0, 0),
  some (.invokevirtual 214, 3, 0, 0, 44, 0, 4), none, none, some (.aload_n 2, 1, 0, 0, 2, 0, 0), some (.getfield 217, 3, 0, 0, 4, 2, 0), none,
  none, some (.ireturn, 1, 0, 0, 0, 0, 0)])
def zt_X_put : zm_M := (⟨"QuadricFlats", "put", "(III)I"⟩, prog_1_method_23_code, 5, some .int, 3, false, 6, [
  some (.aload_n 0, 1, 0, 0, 0, 0, 0), some (.getfield 19, 3, 0, 0, 6, 1, 0), none, none, some (.iload_n 1, 1, 0, 0, 1, 0, 0), some (.invokevirtual 118, 3, 0, 0, 9, 1, 1),
  none, none, some (.ifCond .eq 14, 3, 0, 0, 22, 0, 0), none, none, some (.aload_n 0, 1, 0, 0, 0, 0, 0),
  some (.getfield 19, 3, 0, 0, 6, 1, 0), none, none, some (.iload_n 2, 1, 0, 0, 2, 0, 0), some (.invokevirtual 118, 3, 0, 0, 9, 1, 1), none,
  none, some (.ifCond .ne 6, 3, 0, 0, 25, 0, 0), none, none, some (.bipush (-101), 2, (-101), 0, 0, 0, 0), none,
  some (.ireturn, 1, 0, 0, 0, 0, 0), some (.iload_n 3, 1, 0, 0, 3, 0, 0), some (.ifCond .lt 14, 3, 0, 0, 40, 0, 0), none, none, some (.iload_n 3, 1, 0, 0, 3, 0, 0),
  some (.aload_n 0, 1, 0, 0, 0, 0, 0), some (.getfield 19, 3, 0, 0, 6, 1, 0), none, none, some (.getfield 97, 3, 0, 0, 1, 0, 0), none,
  none, some (.if_icmp .lt 6, 3, 0, 0, 43, 0, 0), none, none, some (.bipush (-102), 2, (-102), 0, 0, 0, 0), none,
  some (.ireturn, 1, 0, 0, 0, 0, 0), some (.aload_n 0, 1, 0, 0, 0, 0, 0), some (.getfield 19, 3, 0, 0, 6, 1, 0), none, none, some (.iload_n 1, 1, 0, 0, 1, 0, 0),
  some (.iload_n 2, 1, 0, 0, 2, 0, 0), some (.invokevirtual 122, 3, 0, 0, 10, 2, 1), none, none, some (.istore 4, 2, 0, 0, 4, 0, 0), none,
  some (.aload_n 0, 1, 0, 0, 0, 0, 0), some (.getfield 19, 3, 0, 0, 6, 1, 0), none, none, some (.iload_n 1, 1, 0, 0, 1, 0, 0), some (.iload_n 2, 1, 0, 0, 2, 0, 0),
  some (.iload_n 3, 1, 0, 0, 3, 0, 0), some (.invokevirtual 237, 3, 0, 0, 11, 3, 1), none, none, some (.aload_n 0, 1, 0, 0, 0, 0, 0), some (.invokevirtual 88, 3, 0, 0, 93, 0, 6),
  none, none, some (.iload 4, 2, 0, 0, 4, 0, 0), none, some (.ireturn, 1, 0, 0, 0, 0, 0)])
def zt_X_swap : zm_M := (⟨"QuadricFlats", "swap", "(II)I"⟩, prog_1_method_24_code, 3, some .int, 2, false, 6, [
  some (.aload_n 0, 1, 0, 0, 0, 0, 0), some (.getfield 19, 3, 0, 0, 6, 1, 0), none, none, some (.iload_n 1, 1, 0, 0, 1, 0, 0), some (.invokevirtual 118, 3, 0, 0, 9, 1, 1),
  none, none, some (.ifCond .eq 19, 3, 0, 0, 27, 0, 0), none, none, some (.aload_n 0, 1, 0, 0, 0, 0, 0),
  some (.getfield 19, 3, 0, 0, 6, 1, 0), none, none, some (.iload_n 2, 1, 0, 0, 2, 0, 0), some (.invokevirtual 118, 3, 0, 0, 9, 1, 1), none,
  none, some (.ifCond .eq 8, 3, 0, 0, 27, 0, 0), none, none, some (.iload_n 1, 1, 0, 0, 1, 0, 0), some (.iload_n 2, 1, 0, 0, 2, 0, 0),
  some (.if_icmp .ne 6, 3, 0, 0, 30, 0, 0), none, none, some (.bipush (-101), 2, (-101), 0, 0, 0, 0), none, some (.ireturn, 1, 0, 0, 0, 0, 0),
  some (.aload_n 0, 1, 0, 0, 0, 0, 0), some (.getfield 19, 3, 0, 0, 6, 1, 0), none, none, some (.iload_n 1, 1, 0, 0, 1, 0, 0), some (.iload_n 2, 1, 0, 0, 2, 0, 0),
  some (.invokevirtual 241, 3, 0, 0, 13, 2, 1), none, none, some (.aload_n 0, 1, 0, 0, 0, 0, 0), some (.invokevirtual 88, 3, 0, 0, 93, 0, 6), none,
  none, some (.aload_n 0, 1, 0, 0, 0, 0, 0), some (.invokevirtual 245, 3, 0, 0, 98, 0, 6), none, none, some (.ireturn, 1, 0, 0, 0, 0, 0)])
def zt_X_plus : zm_M := (⟨"QuadricFlats", "plus", "(III)I"⟩, prog_1_method_25_code, 4, some .int, 3, false, 6, [
  some (.aload_n 0, 1, 0, 0, 0, 0, 0), some (.getfield 19, 3, 0, 0, 6, 1, 0), none, none, some (.iload_n 1, 1, 0, 0, 1, 0, 0), some (.invokevirtual 118, 3, 0, 0, 9, 1, 1),
  none, none, some (.ifCond .eq 19, 3, 0, 0, 27, 0, 0), none, none, some (.aload_n 0, 1, 0, 0, 0, 0, 0),
  some (.getfield 19, 3, 0, 0, 6, 1, 0), none, none, some (.iload_n 2, 1, 0, 0, 2, 0, 0), some (.invokevirtual 118, 3, 0, 0, 9, 1, 1), none,
  none, some (.ifCond .eq 8, 3, 0, 0, 27, 0, 0), none, none, some (.iload_n 1, 1, 0, 0, 1, 0, 0), some (.iload_n 2, 1, 0, 0, 2, 0, 0),
  some (.if_icmp .ne 6, 3, 0, 0, 30, 0, 0), none, none, some (.bipush (-101), 2, (-101), 0, 0, 0, 0), none, some (.ireturn, 1, 0, 0, 0, 0, 0),
  some (.iload_n 3, 1, 0, 0, 3, 0, 0), some (.ifCond .lt 14, 3, 0, 0, 45, 0, 0), none, none, some (.iload_n 3, 1, 0, 0, 3, 0, 0), some (.aload_n 0, 1, 0, 0, 0, 0, 0),
  some (.getfield 19, 3, 0, 0, 6, 1, 0), none, none, some (.getfield 97, 3, 0, 0, 1, 0, 0), none, none,
  some (.if_icmp .lt 6, 3, 0, 0, 48, 0, 0), none, none, some (.bipush (-102), 2, (-102), 0, 0, 0, 0), none, some (.ireturn, 1, 0, 0, 0, 0, 0),
  some (.aload_n 0, 1, 0, 0, 0, 0, 0), some (.getfield 19, 3, 0, 0, 6, 1, 0), none, none, some (.iload_n 1, 1, 0, 0, 1, 0, 0), some (.iload_n 2, 1, 0, 0, 2, 0, 0),
  some (.iload_n 3, 1, 0, 0, 3, 0, 0), some (.invokevirtual 247, 3, 0, 0, 14, 3, 1), none, none, some (.aload_n 0, 1, 0, 0, 0, 0, 0), some (.invokevirtual 88, 3, 0, 0, 93, 0, 6),
  none, none, some (.aload_n 0, 1, 0, 0, 0, 0, 0), some (.invokevirtual 245, 3, 0, 0, 98, 0, 6), none, none,
  some (.ireturn, 1, 0, 0, 0, 0, 0)])
def zt_X_scale : zm_M := (⟨"QuadricFlats", "scale", "(II)I"⟩, prog_1_method_26_code, 3, some .int, 2, false, 6, [
  some (.aload_n 0, 1, 0, 0, 0, 0, 0), some (.getfield 19, 3, 0, 0, 6, 1, 0), none, none, some (.iload_n 1, 1, 0, 0, 1, 0, 0), some (.invokevirtual 118, 3, 0, 0, 9, 1, 1),
  none, none, some (.ifCond .ne 6, 3, 0, 0, 14, 0, 0), none, none, some (.bipush (-101), 2, (-101), 0, 0, 0, 0),
  none, some (.ireturn, 1, 0, 0, 0, 0, 0), some (.iload_n 2, 1, 0, 0, 2, 0, 0), some (.iconst 1, 1, 1, 0, 0, 0, 0), some (.if_icmp .lt 14, 3, 0, 0, 30, 0, 0), none,
  none, some (.iload_n 2, 1, 0, 0, 2, 0, 0), some (.aload_n 0, 1, 0, 0, 0, 0, 0), some (.getfield 19, 3, 0, 0, 6, 1, 0), none, none,
  some (.getfield 97, 3, 0, 0, 1, 0, 0), none, none, some (.if_icmp .lt 6, 3, 0, 0, 33, 0, 0), none, none,
  some (.bipush (-102), 2, (-102), 0, 0, 0, 0), none, some (.ireturn, 1, 0, 0, 0, 0, 0), some (.aload_n 0, 1, 0, 0, 0, 0, 0), some (.getfield 19, 3, 0, 0, 6, 1, 0), none,
  none, some (.iload_n 1, 1, 0, 0, 1, 0, 0), some (.iload_n 2, 1, 0, 0, 2, 0, 0), some (.invokevirtual 250, 3, 0, 0, 15, 2, 1), none, none,
  some (.aload_n 0, 1, 0, 0, 0, 0, 0), some (.invokevirtual 88, 3, 0, 0, 93, 0, 6), none, none, some (.aload_n 0, 1, 0, 0, 0, 0, 0), some (.invokevirtual 245, 3, 0, 0, 98, 0, 6),
  none, none, some (.ireturn, 1, 0, 0, 0, 0, 0)])
def zt_X_times : zm_M := (⟨"QuadricFlats", "times", "(I)I"⟩, prog_1_method_27_code, 2, some .int, 1, false, 6, [
  some (.aload_n 0, 1, 0, 0, 0, 0, 0), some (.getfield 19, 3, 0, 0, 6, 1, 0), none, none, some (.getfield 100, 3, 0, 0, 1, 1, 0), none,
  none, some (.ifCond .ne 6, 3, 0, 0, 13, 0, 0), none, none, some (.bipush (-103), 2, (-103), 0, 0, 0, 0), none,
  some (.ireturn, 1, 0, 0, 0, 0, 0), some (.iload_n 1, 1, 0, 0, 1, 0, 0), some (.iconst 1, 1, 1, 0, 0, 0, 0), some (.if_icmp .lt 14, 3, 0, 0, 29, 0, 0), none, none,
  some (.iload_n 1, 1, 0, 0, 1, 0, 0), some (.aload_n 0, 1, 0, 0, 0, 0, 0), some (.getfield 19, 3, 0, 0, 6, 1, 0), none, none, some (.getfield 97, 3, 0, 0, 1, 0, 0),
  none, none, some (.if_icmp .lt 6, 3, 0, 0, 32, 0, 0), none, none, some (.bipush (-102), 2, (-102), 0, 0, 0, 0),
  none, some (.ireturn, 1, 0, 0, 0, 0, 0), some (.aload_n 0, 1, 0, 0, 0, 0, 0), some (.getfield 19, 3, 0, 0, 6, 1, 0), none, none,
  some (.iload_n 1, 1, 0, 0, 1, 0, 0), some (.invokevirtual 253, 3, 0, 0, 16, 1, 1), none, none, some (.aload_n 0, 1, 0, 0, 0, 0, 0), some (.invokevirtual 88, 3, 0, 0, 93, 0, 6),
  none, none, some (.aload_n 0, 1, 0, 0, 0, 0, 0), some (.getfield 19, 3, 0, 0, 6, 1, 0), none, none,
  some (.invokevirtual 112, 3, 0, 0, 17, 0, 1), none, none, some (.ireturn, 1, 0, 0, 0, 0, 0)])
def zt_X_image : zm_M := (⟨"QuadricFlats", "image", "()I"⟩, prog_1_method_28_code, 1, some .int, 0, false, 6, [
  some (.aload_n 0, 1, 0, 0, 0, 0, 0), some (.invokevirtual 94, 3, 0, 0, 90, 0, 6), none, none, some (.ifCond .ne 6, 3, 0, 0, 10, 0, 0), none,
  none, some (.bipush (-103), 2, (-103), 0, 0, 0, 0), none, some (.ireturn, 1, 0, 0, 0, 0, 0), some (.aload_n 0, 1, 0, 0, 0, 0, 0), some (.getfield 23, 3, 0, 0, 6, 2, 0),
  none, none, some (.aload_n 0, 1, 0, 0, 0, 0, 0), some (.getfield 19, 3, 0, 0, 6, 1, 0), none, none,
  some (.invokevirtual 256, 3, 0, 0, 12, 1, 1), none, none, some (.aload_n 0, 1, 0, 0, 0, 0, 0), some (.aload_n 0, 1, 0, 0, 0, 0, 0), some (.getfield 29, 3, 0, 0, 6, 3, 0),
  none, none, some (.invokevirtual 109, 3, 0, 0, 41, 0, 3), none, none, some (.putfield 259, 3, 0, 0, 6, 9, 0),
  none, none, some (.aload_n 0, 1, 0, 0, 0, 0, 0), some (.getfield 29, 3, 0, 0, 6, 3, 0), none, none,
  some (.getfield 91, 3, 0, 0, 3, 2, 0), none, none, some (.ireturn, 1, 0, 0, 0, 0, 0)])
def zt_X_restore : zm_M := (⟨"QuadricFlats", "restore", "()I"⟩, prog_1_method_29_code, 1, some .int, 0, false, 6, [
  some (.aload_n 0, 1, 0, 0, 0, 0, 0), some (.getfield 23, 3, 0, 0, 6, 2, 0), none, none, some (.getfield 100, 3, 0, 0, 1, 1, 0), none,
  none, some (.ifCond .ne 6, 3, 0, 0, 13, 0, 0), none, none, some (.bipush (-103), 2, (-103), 0, 0, 0, 0), none,
  some (.ireturn, 1, 0, 0, 0, 0, 0), some (.aload_n 0, 1, 0, 0, 0, 0, 0), some (.getfield 19, 3, 0, 0, 6, 1, 0), none, none, some (.aload_n 0, 1, 0, 0, 0, 0, 0),
  some (.getfield 23, 3, 0, 0, 6, 2, 0), none, none, some (.invokevirtual 256, 3, 0, 0, 12, 1, 1), none, none,
  some (.aload_n 0, 1, 0, 0, 0, 0, 0), some (.getfield 29, 3, 0, 0, 6, 3, 0), none, none, some (.aload_n 0, 1, 0, 0, 0, 0, 0), some (.getfield 19, 3, 0, 0, 6, 1, 0),
  none, none, some (.invokevirtual 85, 3, 0, 0, 30, 1, 3), none, none, some (.aload_n 0, 1, 0, 0, 0, 0, 0),
  some (.invokevirtual 88, 3, 0, 0, 93, 0, 6), none, none, some (.aload_n 0, 1, 0, 0, 0, 0, 0), some (.getfield 29, 3, 0, 0, 6, 3, 0), none,
  none, some (.getfield 91, 3, 0, 0, 3, 2, 0), none, none, some (.ireturn, 1, 0, 0, 0, 0, 0)])
def zt_X_like : zm_M := (⟨"QuadricFlats", "like", "()I"⟩, prog_1_method_30_code, 3, some .int, 0, false, 6, [
  some (.aload_n 0, 1, 0, 0, 0, 0, 0), some (.getfield 23, 3, 0, 0, 6, 2, 0), none, none, some (.getfield 100, 3, 0, 0, 1, 1, 0), none,
  none, some (.ifCond .eq 10, 3, 0, 0, 17, 0, 0), none, none, some (.aload_n 0, 1, 0, 0, 0, 0, 0), some (.invokevirtual 94, 3, 0, 0, 90, 0, 6),
  none, none, some (.ifCond .ne 6, 3, 0, 0, 20, 0, 0), none, none, some (.bipush (-103), 2, (-103), 0, 0, 0, 0),
  none, some (.ireturn, 1, 0, 0, 0, 0, 0), some (.aload_n 0, 1, 0, 0, 0, 0, 0), some (.getfield 19, 3, 0, 0, 6, 1, 0), none, none,
  some (.getfield 97, 3, 0, 0, 1, 0, 0), none, none, some (.aload_n 0, 1, 0, 0, 0, 0, 0), some (.getfield 23, 3, 0, 0, 6, 2, 0), none,
  none, some (.getfield 97, 3, 0, 0, 1, 0, 0), none, none, some (.if_icmp .ne 24, 3, 0, 0, 58, 0, 0), none,
  none, some (.aload_n 0, 1, 0, 0, 0, 0, 0), some (.getfield 19, 3, 0, 0, 6, 1, 0), none, none, some (.getfield 100, 3, 0, 0, 1, 1, 0),
  none, none, some (.aload_n 0, 1, 0, 0, 0, 0, 0), some (.getfield 23, 3, 0, 0, 6, 2, 0), none, none,
  some (.getfield 100, 3, 0, 0, 1, 1, 0), none, none, some (.if_icmp .ne 7, 3, 0, 0, 58, 0, 0), none, none,
  some (.iconst 1, 1, 1, 0, 0, 0, 0), some (.goto 4, 3, 0, 0, 59, 0, 0), none, none, some (.iconst 0, 1, 0, 0, 0, 0, 0), some (.istore_n 1, 1, 0, 0, 1, 0, 0),
  some (.aload_n 0, 1, 0, 0, 0, 0, 0), some (.getfield 29, 3, 0, 0, 6, 3, 0), none, none, some (.invokevirtual 109, 3, 0, 0, 41, 0, 3), none,
  none, some (.aload_n 0, 1, 0, 0, 0, 0, 0), some (.getfield 259, 3, 0, 0, 6, 9, 0), none, none, some (.if_icmp .ne 15, 3, 0, 0, 86, 0, 0),
  none, none, some (.aload_n 0, 1, 0, 0, 0, 0, 0), some (.getfield 259, 3, 0, 0, 6, 9, 0), none, none,
  some (.iconst 3, 1, 3, 0, 0, 0, 0), some (.if_icmp .eq 7, 3, 0, 0, 86, 0, 0), none, none, some (.iconst 1, 1, 1, 0, 0, 0, 0), some (.goto 4, 3, 0, 0, 87, 0, 0),
  none, none, some (.iconst 0, 1, 0, 0, 0, 0, 0), some (.istore_n 2, 1, 0, 0, 2, 0, 0), some (.iload_n 1, 1, 0, 0, 1, 0, 0), some (.ifCond .eq 28, 3, 0, 0, 117, 0, 0),
  none, none, some (.iload_n 2, 1, 0, 0, 2, 0, 0), some (.ifCond .eq 24, 3, 0, 0, 117, 0, 0), none, none,
  some (.aload_n 0, 1, 0, 0, 0, 0, 0), some (.getfield 19, 3, 0, 0, 6, 1, 0), none, none, some (.invokevirtual 112, 3, 0, 0, 17, 0, 1), none,
  none, some (.aload_n 0, 1, 0, 0, 0, 0, 0), some (.getfield 23, 3, 0, 0, 6, 2, 0), none, none, some (.invokevirtual 112, 3, 0, 0, 17, 0, 1),
  none, none, some (.if_icmp .ne 7, 3, 0, 0, 117, 0, 0), none, none, some (.iconst 1, 1, 1, 0, 0, 0, 0),
  some (.goto 4, 3, 0, 0, 118, 0, 0), none, none, some (.iconst 0, 1, 0, 0, 0, 0, 0), some (.ireturn, 1, 0, 0, 0, 0, 0)])
def zt_X_drawn : zm_M := (⟨"QuadricFlats", "drawn", "(III)I"⟩, prog_1_method_31_code, 10, some .int, 3, false, 6, [
  some (.iload_n 1, 1, 0, 0, 1, 0, 0), some (.iconst 1, 1, 1, 0, 0, 0, 0), some (.if_icmp .lt 22, 3, 0, 0, 24, 0, 0), none, none, some (.iload_n 1, 1, 0, 0, 1, 0, 0),
  some (.bipush 100, 2, 100, 0, 0, 0, 0), none, some (.if_icmp .gt 16, 3, 0, 0, 24, 0, 0), none, none, some (.iload_n 2, 1, 0, 0, 2, 0, 0),
  some (.ifCond .lt 12, 3, 0, 0, 24, 0, 0), none, none, some (.iload_n 3, 1, 0, 0, 3, 0, 0), some (.ifCond .lt 8, 3, 0, 0, 24, 0, 0), none,
  none, some (.iload_n 3, 1, 0, 0, 3, 0, 0), some (.iconst 2, 1, 2, 0, 0, 0, 0), some (.if_icmp .le 6, 3, 0, 0, 27, 0, 0), none, none,
  some (.bipush (-102), 2, (-102), 0, 0, 0, 0), none, some (.ireturn, 1, 0, 0, 0, 0, 0), some (.aload_n 0, 1, 0, 0, 0, 0, 0), some (.invokevirtual 94, 3, 0, 0, 90, 0, 6), none,
  none, some (.ifCond .ne 6, 3, 0, 0, 37, 0, 0), none, none, some (.bipush (-103), 2, (-103), 0, 0, 0, 0), none,
  some (.ireturn, 1, 0, 0, 0, 0, 0), some (.iconst 0, 1, 0, 0, 0, 0, 0), some (.istore 4, 2, 0, 0, 4, 0, 0), none, some (.iconst 0, 1, 0, 0, 0, 0, 0), some (.istore 5, 2, 0, 0, 5, 0, 0),
  none, some (.iload_n 2, 1, 0, 0, 2, 0, 0), some (.istore 6, 2, 0, 0, 6, 0, 0), none, some (.iconst 0, 1, 0, 0, 0, 0, 0), some (.istore 7, 2, 0, 0, 7, 0, 0),
  none, some (.iload 7, 2, 0, 0, 7, 0, 0), none, some (.iload_n 1, 1, 0, 0, 1, 0, 0), some (.if_icmp .ge 123, 3, 0, 0, 175, 0, 0), none,
  none, some (.iload 6, 2, 0, 0, 6, 0, 0), none, some (.invokestatic 262, 3, 0, 0, 103, 1, 0), none, none,
  some (.istore 6, 2, 0, 0, 6, 0, 0), none, some (.iload 6, 2, 0, 0, 6, 0, 0), none, some (.ldc_w 265, 3, 65536, 0, 0, 0, 0), none,
  none, some (.idiv, 1, 0, 0, 0, 0, 0), some (.aload_n 0, 1, 0, 0, 0, 0, 0), some (.getfield 29, 3, 0, 0, 6, 3, 0), none, none,
  some (.getfield 91, 3, 0, 0, 3, 2, 0), none, none, some (.invokestatic 266, 3, 0, 0, 104, 2, 0), none, none,
  some (.istore 8, 2, 0, 0, 8, 0, 0), none, some (.iload 6, 2, 0, 0, 6, 0, 0), none, some (.invokestatic 262, 3, 0, 0, 103, 1, 0), none,
  none, some (.istore 6, 2, 0, 0, 6, 0, 0), none, some (.iload 6, 2, 0, 0, 6, 0, 0), none, some (.ldc_w 265, 3, 65536, 0, 0, 0, 0),
  none, none, some (.idiv, 1, 0, 0, 0, 0, 0), some (.aload_n 0, 1, 0, 0, 0, 0, 0), some (.getfield 29, 3, 0, 0, 6, 3, 0), none,
  none, some (.getfield 91, 3, 0, 0, 3, 2, 0), none, none, some (.invokestatic 266, 3, 0, 0, 104, 2, 0), none,
  none, some (.istore 9, 2, 0, 0, 9, 0, 0), none, some (.iload 4, 2, 0, 0, 4, 0, 0), none, some (.aload_n 0, 1, 0, 0, 0, 0, 0),
  some (.getfield 29, 3, 0, 0, 6, 3, 0), none, none, some (.iload 8, 2, 0, 0, 8, 0, 0), none, some (.invokevirtual 269, 3, 0, 0, 36, 1, 3),
  none, none, some (.ifCond .eq 7, 3, 0, 0, 123, 0, 0), none, none, some (.iconst 1, 1, 1, 0, 0, 0, 0),
  some (.goto 4, 3, 0, 0, 124, 0, 0), none, none, some (.iconst 0, 1, 0, 0, 0, 0, 0), some (.aload_n 0, 1, 0, 0, 0, 0, 0), some (.getfield 29, 3, 0, 0, 6, 3, 0),
  none, none, some (.iload 9, 2, 0, 0, 9, 0, 0), none, some (.invokevirtual 269, 3, 0, 0, 36, 1, 3), none,
  none, some (.ifCond .eq 7, 3, 0, 0, 140, 0, 0), none, none, some (.iconst 1, 1, 1, 0, 0, 0, 0), some (.goto 4, 3, 0, 0, 141, 0, 0),
  none, none, some (.iconst 0, 1, 0, 0, 0, 0, 0), some (.iadd, 1, 0, 0, 0, 0, 0), some (.iadd, 1, 0, 0, 0, 0, 0), some (.istore 4, 2, 0, 0, 4, 0, 0),
  none, some (.iload 5, 2, 0, 0, 5, 0, 0), none, some (.aload_n 0, 1, 0, 0, 0, 0, 0), some (.getfield 29, 3, 0, 0, 6, 3, 0), none,
  none, some (.iload 8, 2, 0, 0, 8, 0, 0), none, some (.iload 9, 2, 0, 0, 9, 0, 0), none, some (.invokevirtual 143, 3, 0, 0, 38, 2, 3),
  none, none, some (.ifCond .eq 7, 3, 0, 0, 165, 0, 0), none, none, some (.iconst 1, 1, 1, 0, 0, 0, 0),
  some (.goto 4, 3, 0, 0, 166, 0, 0), none, none, some (.iconst 0, 1, 0, 0, 0, 0, 0), some (.iadd, 1, 0, 0, 0, 0, 0), some (.istore 5, 2, 0, 0, 5, 0, 0),
  none, some (.iinc 7 1, 3, 1, 0, 7, 0, 0), none, none, some (.goto (-123), 3, 0, 0, 49, 0, 0), none,
  none, some (.iload_n 3, 1, 0, 0, 3, 0, 0), some (.ifCond .ne 6, 3, 0, 0, 182, 0, 0), none, none, some (.iload 4, 2, 0, 0, 4, 0, 0),
  none, some (.ireturn, 1, 0, 0, 0, 0, 0), some (.iload_n 3, 1, 0, 0, 3, 0, 0), some (.iconst 1, 1, 1, 0, 0, 0, 0), some (.if_icmp .ne 8, 3, 0, 0, 192, 0, 0), none,
  none, some (.iload 5, 2, 0, 0, 5, 0, 0), none, some (.goto 5, 3, 0, 0, 194, 0, 0), none, none,
  some (.iload 6, 2, 0, 0, 6, 0, 0), none, some (.ireturn, 1, 0, 0, 0, 0, 0)])
def zt_X_count : zm_M := (⟨"QuadricFlats", "count", "(I)I"⟩, prog_1_method_32_code, 2, some .int, 1, false, 6, [
  some (.iload_n 1, 1, 0, 0, 1, 0, 0), some (.tableswitch 119 0 8 #[51, 56, 61, 80, 88, 96, 104, 109, 114], 51, 0, 0, 0, 0, 0), none, none, none, none,
  none, none, none, none, none, none,
  none, none, none, none, none, none,
  none, none, none, none, none, none,
  none, none, none, none, none, none,
  none, none, none, none, none, none,
  none, none, none, none, none, none,
  none, none, none, none, none, none,
  none, none, none, none, some (.aload_n 0, 1, 0, 0, 0, 0, 0), some (.invokevirtual 272, 3, 0, 0, 97, 0, 6),
  none, none, some (.ireturn, 1, 0, 0, 0, 0, 0), some (.aload_n 0, 1, 0, 0, 0, 0, 0), some (.invokevirtual 245, 3, 0, 0, 98, 0, 6), none,
  none, some (.ireturn, 1, 0, 0, 0, 0, 0), some (.aload_n 0, 1, 0, 0, 0, 0, 0), some (.invokevirtual 154, 3, 0, 0, 91, 0, 6), none, none,
  some (.ifCond .eq 13, 3, 0, 0, 79, 0, 0), none, none, some (.aload_n 0, 1, 0, 0, 0, 0, 0), some (.getfield 47, 3, 0, 0, 6, 6, 0), none,
  none, some (.getfield 275, 3, 0, 0, 5, 0, 0), none, none, some (.goto 4, 3, 0, 0, 80, 0, 0), none,
  none, some (.iconst 0, 1, 0, 0, 0, 0, 0), some (.ireturn, 1, 0, 0, 0, 0, 0), some (.aload_n 0, 1, 0, 0, 0, 0, 0), some (.getfield 43, 3, 0, 0, 6, 5, 0), none,
  none, some (.getfield 196, 3, 0, 0, 5, 4, 0), none, none, some (.ireturn, 1, 0, 0, 0, 0, 0), some (.aload_n 0, 1, 0, 0, 0, 0, 0),
  some (.getfield 47, 3, 0, 0, 6, 6, 0), none, none, some (.getfield 196, 3, 0, 0, 5, 4, 0), none, none,
  some (.ireturn, 1, 0, 0, 0, 0, 0), some (.aload_n 0, 1, 0, 0, 0, 0, 0), some (.getfield 12, 3, 0, 0, 6, 0, 0), none, none, some (.getfield 62, 3, 0, 0, 2, 1, 0),
  none, none, some (.ireturn, 1, 0, 0, 0, 0, 0), some (.aload_n 0, 1, 0, 0, 0, 0, 0), some (.getfield 82, 3, 0, 0, 6, 10, 0), none,
  none, some (.ireturn, 1, 0, 0, 0, 0, 0), some (.aload_n 0, 1, 0, 0, 0, 0, 0), some (.getfield 207, 3, 0, 0, 6, 11, 0), none, none,
  some (.ireturn, 1, 0, 0, 0, 0, 0), some (.aload_n 0, 1, 0, 0, 0, 0, 0), some (.getfield 234, 3, 0, 0, 6, 12, 0), none, none, some (.ireturn, 1, 0, 0, 0, 0, 0),
  some (.bipush (-102), 2, (-102), 0, 0, 0, 0), none, some (.ireturn, 1, 0, 0, 0, 0, 0)])
def zt_X_digest : zm_M := (⟨"QuadricFlats", "digest", "()J"⟩, prog_1_method_33_code, 5, some .long, 0, false, 6, [
  some (.ldc2_w 278, 3, 0, 1499, 0, 0, 0), none, none, some (.lstore_n 1, 1, 0, 0, 1, 0, 0), some (.aload_n 0, 1, 0, 0, 0, 0, 0), some (.invokevirtual 94, 3, 0, 0, 90, 0, 6),
  none, none, some (.ifCond .eq 9, 3, 0, 0, 17, 0, 0), none, none, some (.aload_n 0, 1, 0, 0, 0, 0, 0),
  some (.lload_n 1, 1, 0, 0, 1, 0, 0), some (.invokevirtual 280, 3, 0, 0, 88, 1, 6), none, none, some (.lstore_n 1, 1, 0, 0, 1, 0, 0), some (.aload_n 0, 1, 0, 0, 0, 0, 0),
  some (.invokevirtual 154, 3, 0, 0, 91, 0, 6), none, none, some (.ifCond .eq 9, 3, 0, 0, 30, 0, 0), none, none,
  some (.aload_n 0, 1, 0, 0, 0, 0, 0), some (.lload_n 1, 1, 0, 0, 1, 0, 0), some (.invokevirtual 284, 3, 0, 0, 89, 1, 6), none, none, some (.lstore_n 1, 1, 0, 0, 1, 0, 0),
  some (.iconst 0, 1, 0, 0, 0, 0, 0), some (.istore_n 3, 1, 0, 0, 3, 0, 0), some (.iload_n 3, 1, 0, 0, 3, 0, 0), some (.iconst 1, 1, 1, 0, 0, 0, 0), some (.if_icmp .gt 46, 3, 0, 0, 80, 0, 0), none,
  none, some (.iconst 0, 1, 0, 0, 0, 0, 0), some (.istore 4, 2, 0, 0, 4, 0, 0), none, some (.iload 4, 2, 0, 0, 4, 0, 0), none,
  some (.aload_n 0, 1, 0, 0, 0, 0, 0), some (.iload_n 3, 1, 0, 0, 3, 0, 0), some (.invokevirtual 197, 3, 0, 0, 99, 1, 6), none, none, some (.getfield 196, 3, 0, 0, 5, 4, 0),
  none, none, some (.if_icmp .ge 24, 3, 0, 0, 74, 0, 0), none, none, some (.ldc2_w 287, 3, 0, 31, 0, 0, 0),
  none, none, some (.lload_n 1, 1, 0, 0, 1, 0, 0), some (.lmul, 1, 0, 0, 0, 0, 0), some (.aload_n 0, 1, 0, 0, 0, 0, 0), some (.iload_n 3, 1, 0, 0, 3, 0, 0),
  some (.iload 4, 2, 0, 0, 4, 0, 0), none, some (.invokevirtual 201, 3, 0, 0, 101, 2, 6), none, none, some (.i2l, 1, 0, 0, 0, 0, 0),
  some (.ladd, 1, 0, 0, 0, 0, 0), some (.lstore_n 1, 1, 0, 0, 1, 0, 0), some (.iinc 4 1, 3, 1, 0, 4, 0, 0), none, none, some (.goto (-31), 3, 0, 0, 40, 0, 0),
  none, none, some (.iinc 3 1, 3, 1, 0, 3, 0, 0), none, none, some (.goto (-45), 3, 0, 0, 32, 0, 0),
  none, none, some (.iconst 0, 1, 0, 0, 0, 0, 0), some (.istore_n 3, 1, 0, 0, 3, 0, 0), some (.iload_n 3, 1, 0, 0, 3, 0, 0), some (.aload_n 0, 1, 0, 0, 0, 0, 0),
  some (.getfield 12, 3, 0, 0, 6, 0, 0), none, none, some (.getfield 62, 3, 0, 0, 2, 1, 0), none, none,
  some (.if_icmp .ge 26, 3, 0, 0, 116, 0, 0), none, none, some (.ldc2_w 287, 3, 0, 31, 0, 0, 0), none, none,
  some (.lload_n 1, 1, 0, 0, 1, 0, 0), some (.lmul, 1, 0, 0, 0, 0, 0), some (.aload_n 0, 1, 0, 0, 0, 0, 0), some (.getfield 12, 3, 0, 0, 6, 0, 0), none, none,
  some (.getfield 289, 3, 0, 0, 2, 0, 0), none, none, some (.iload_n 3, 1, 0, 0, 3, 0, 0), some (.iaload, 1, 0, 0, 0, 0, 0), some (.i2l, 1, 0, 0, 0, 0, 0),
  some (.ladd, 1, 0, 0, 0, 0, 0), some (.lstore_n 1, 1, 0, 0, 1, 0, 0), some (.iinc 3 1, 3, 1, 0, 3, 0, 0), none, none, some (.goto (-31), 3, 0, 0, 82, 0, 0),
  none, none, some (.iconst 0, 1, 0, 0, 0, 0, 0), some (.istore_n 3, 1, 0, 0, 3, 0, 0), some (.iload_n 3, 1, 0, 0, 3, 0, 0), some (.bipush 8, 2, 8, 0, 0, 0, 0),
  none, some (.if_icmp .gt 22, 3, 0, 0, 143, 0, 0), none, none, some (.ldc2_w 287, 3, 0, 31, 0, 0, 0), none,
  none, some (.lload_n 1, 1, 0, 0, 1, 0, 0), some (.lmul, 1, 0, 0, 0, 0, 0), some (.aload_n 0, 1, 0, 0, 0, 0, 0), some (.iload_n 3, 1, 0, 0, 3, 0, 0), some (.invokevirtual 292, 3, 0, 0, 86, 1, 6),
  none, none, some (.i2l, 1, 0, 0, 0, 0, 0), some (.ladd, 1, 0, 0, 0, 0, 0), some (.lstore_n 1, 1, 0, 0, 1, 0, 0), some (.iinc 3 1, 3, 1, 0, 3, 0, 0),
  none, none, some (.goto (-22), 3, 0, 0, 118, 0, 0), none, none, some (.lload_n 1, 1, 0, 0, 1, 0, 0),
  some (.lreturn, 1, 0, 0, 0, 0, 0)])
def zt_X_digestForm : zm_M := (⟨"QuadricFlats", "digestForm", "(J)J"⟩, prog_1_method_34_code, 7, some .long, 1, false, 6, [
  some (.lload_n 1, 1, 0, 0, 1, 0, 0), some (.lstore_n 3, 1, 0, 0, 3, 0, 0), some (.iconst 0, 1, 0, 0, 0, 0, 0), some (.istore 5, 2, 0, 0, 5, 0, 0), none, some (.iload 5, 2, 0, 0, 5, 0, 0),
  none, some (.bipush 7, 2, 7, 0, 0, 0, 0), none, some (.if_icmp .gt 23, 3, 0, 0, 32, 0, 0), none, none,
  some (.ldc2_w 287, 3, 0, 31, 0, 0, 0), none, none, some (.lload_n 3, 1, 0, 0, 3, 0, 0), some (.lmul, 1, 0, 0, 0, 0, 0), some (.aload_n 0, 1, 0, 0, 0, 0, 0),
  some (.iload 5, 2, 0, 0, 5, 0, 0), none, some (.invokevirtual 295, 3, 0, 0, 60, 1, 6), none, none, some (.i2l, 1, 0, 0, 0, 0, 0),
  some (.ladd, 1, 0, 0, 0, 0, 0), some (.lstore_n 3, 1, 0, 0, 3, 0, 0), some (.iinc 5 1, 3, 1, 0, 5, 0, 0), none, none, some (.goto (-24), 3, 0, 0, 5, 0, 0),
  none, none, some (.iconst 0, 1, 0, 0, 0, 0, 0), some (.istore 5, 2, 0, 0, 5, 0, 0), none, some (.iload 5, 2, 0, 0, 5, 0, 0),
  none, some (.aload_n 0, 1, 0, 0, 0, 0, 0), some (.getfield 19, 3, 0, 0, 6, 1, 0), none, none, some (.getfield 100, 3, 0, 0, 1, 1, 0),
  none, none, some (.if_icmp .ge 50, 3, 0, 0, 94, 0, 0), none, none, some (.iload 5, 2, 0, 0, 5, 0, 0),
  none, some (.istore 6, 2, 0, 0, 6, 0, 0), none, some (.iload 6, 2, 0, 0, 6, 0, 0), none, some (.aload_n 0, 1, 0, 0, 0, 0, 0),
  some (.getfield 19, 3, 0, 0, 6, 1, 0), none, none, some (.getfield 100, 3, 0, 0, 1, 1, 0), none, none,
  some (.if_icmp .ge 28, 3, 0, 0, 88, 0, 0), none, none, some (.ldc2_w 287, 3, 0, 31, 0, 0, 0), none, none,
  some (.lload_n 3, 1, 0, 0, 3, 0, 0), some (.lmul, 1, 0, 0, 0, 0, 0), some (.aload_n 0, 1, 0, 0, 0, 0, 0), some (.getfield 19, 3, 0, 0, 6, 1, 0), none, none,
  some (.iload 5, 2, 0, 0, 5, 0, 0), none, some (.iload 6, 2, 0, 0, 6, 0, 0), none, some (.invokevirtual 122, 3, 0, 0, 10, 2, 1), none,
  none, some (.i2l, 1, 0, 0, 0, 0, 0), some (.ladd, 1, 0, 0, 0, 0, 0), some (.lstore_n 3, 1, 0, 0, 3, 0, 0), some (.iinc 6 1, 3, 1, 0, 6, 0, 0), none,
  none, some (.goto (-34), 3, 0, 0, 51, 0, 0), none, none, some (.iinc 5 1, 3, 1, 0, 5, 0, 0), none,
  none, some (.goto (-56), 3, 0, 0, 35, 0, 0), none, none, some (.iconst 0, 1, 0, 0, 0, 0, 0), some (.istore 5, 2, 0, 0, 5, 0, 0),
  none, some (.iload 5, 2, 0, 0, 5, 0, 0), none, some (.aload_n 0, 1, 0, 0, 0, 0, 0), some (.getfield 29, 3, 0, 0, 6, 3, 0), none,
  none, some (.getfield 91, 3, 0, 0, 3, 2, 0), none, none, some (.if_icmp .ge 27, 3, 0, 0, 133, 0, 0), none,
  none, some (.ldc2_w 287, 3, 0, 31, 0, 0, 0), none, none, some (.lload_n 3, 1, 0, 0, 3, 0, 0), some (.lmul, 1, 0, 0, 0, 0, 0),
  some (.aload_n 0, 1, 0, 0, 0, 0, 0), some (.getfield 29, 3, 0, 0, 6, 3, 0), none, none, some (.getfield 133, 3, 0, 0, 3, 5, 0), none,
  none, some (.iload 5, 2, 0, 0, 5, 0, 0), none, some (.iaload, 1, 0, 0, 0, 0, 0), some (.i2l, 1, 0, 0, 0, 0, 0), some (.ladd, 1, 0, 0, 0, 0, 0),
  some (.lstore_n 3, 1, 0, 0, 3, 0, 0), some (.iinc 5 1, 3, 1, 0, 5, 0, 0), none, none, some (.goto (-33), 3, 0, 0, 97, 0, 0), none,
  none, some (.lload_n 3, 1, 0, 0, 3, 0, 0), some (.lreturn, 1, 0, 0, 0, 0, 0)])
def zt_X_digestFlats : zm_M := (⟨"QuadricFlats", "digestFlats", "(J)J"⟩, prog_1_method_35_code, 9, some .long, 1, false, 6, [
  some (.lload_n 1, 1, 0, 0, 1, 0, 0), some (.lstore_n 3, 1, 0, 0, 3, 0, 0), some (.iconst 1, 1, 1, 0, 0, 0, 0), some (.istore 5, 2, 0, 0, 5, 0, 0), none, some (.iload 5, 2, 0, 0, 5, 0, 0),
  none, some (.iconst 3, 1, 3, 0, 0, 0, 0), some (.if_icmp .gt 26, 3, 0, 0, 34, 0, 0), none, none, some (.ldc2_w 287, 3, 0, 31, 0, 0, 0),
  none, none, some (.lload_n 3, 1, 0, 0, 3, 0, 0), some (.lmul, 1, 0, 0, 0, 0, 0), some (.aload_n 0, 1, 0, 0, 0, 0, 0), some (.getfield 36, 3, 0, 0, 6, 4, 0),
  none, none, some (.iload 5, 2, 0, 0, 5, 0, 0), none, some (.invokevirtual 157, 3, 0, 0, 7, 1, 0), none,
  none, some (.i2l, 1, 0, 0, 0, 0, 0), some (.ladd, 1, 0, 0, 0, 0, 0), some (.lstore_n 3, 1, 0, 0, 3, 0, 0), some (.iinc 5 1, 3, 1, 0, 5, 0, 0), none,
  none, some (.goto (-26), 3, 0, 0, 5, 0, 0), none, none, some (.iconst 0, 1, 0, 0, 0, 0, 0), some (.istore 5, 2, 0, 0, 5, 0, 0),
  none, some (.iload 5, 2, 0, 0, 5, 0, 0), none, some (.aload_n 0, 1, 0, 0, 0, 0, 0), some (.getfield 47, 3, 0, 0, 6, 6, 0), none,
  none, some (.getfield 275, 3, 0, 0, 5, 0, 0), none, none, some (.if_icmp .ge 69, 3, 0, 0, 115, 0, 0), none,
  none, some (.aload_n 0, 1, 0, 0, 0, 0, 0), some (.getfield 47, 3, 0, 0, 6, 6, 0), none, none, some (.getfield 185, 3, 0, 0, 5, 1, 0),
  none, none, some (.iload 5, 2, 0, 0, 5, 0, 0), none, some (.laload, 1, 0, 0, 0, 0, 0), some (.lstore 6, 2, 0, 0, 6, 0, 0),
  none, some (.lload 6, 2, 0, 0, 6, 0, 0), none, some (.invokestatic 164, 3, 0, 0, 216, 1, 0), none, none,
  some (.istore 8, 2, 0, 0, 8, 0, 0), none, some (.iload 8, 2, 0, 0, 8, 0, 0), none, some (.ifCond .le 39, 3, 0, 0, 109, 0, 0), none,
  none, some (.ldc2_w 287, 3, 0, 31, 0, 0, 0), none, none, some (.lload_n 3, 1, 0, 0, 3, 0, 0), some (.lmul, 1, 0, 0, 0, 0, 0),
  some (.aload_n 0, 1, 0, 0, 0, 0, 0), some (.getfield 29, 3, 0, 0, 6, 3, 0), none, none, some (.getfield 170, 3, 0, 0, 3, 6, 0), none,
  none, some (.lload 6, 2, 0, 0, 6, 0, 0), none, some (.invokestatic 173, 3, 0, 0, 106, 1, 0), none, none,
  some (.iaload, 1, 0, 0, 0, 0, 0), some (.i2l, 1, 0, 0, 0, 0, 0), some (.ladd, 1, 0, 0, 0, 0, 0), some (.lstore_n 3, 1, 0, 0, 3, 0, 0), some (.lload 6, 2, 0, 0, 6, 0, 0), none,
  some (.lload 6, 2, 0, 0, 6, 0, 0), none, some (.lconst 1, 1, 0, 1, 0, 0, 0), some (.lsub, 1, 0, 0, 0, 0, 0), some (.land, 1, 0, 0, 0, 0, 0), some (.lstore 6, 2, 0, 0, 6, 0, 0),
  none, some (.iinc 8 (-1), 3, (-1), 0, 8, 0, 0), none, none, some (.goto (-38), 3, 0, 0, 68, 0, 0), none,
  none, some (.iinc 5 1, 3, 1, 0, 5, 0, 0), none, none, some (.goto (-75), 3, 0, 0, 37, 0, 0), none,
  none, some (.ldc2_w 287, 3, 0, 31, 0, 0, 0), none, none, some (.lload_n 3, 1, 0, 0, 3, 0, 0), some (.lmul, 1, 0, 0, 0, 0, 0),
  some (.aload_n 0, 1, 0, 0, 0, 0, 0), some (.iconst 0, 1, 0, 0, 0, 0, 0), some (.invokevirtual 204, 3, 0, 0, 102, 1, 6), none, none, some (.i2l, 1, 0, 0, 0, 0, 0),
  some (.ladd, 1, 0, 0, 0, 0, 0), some (.lstore_n 3, 1, 0, 0, 3, 0, 0), some (.ldc2_w 287, 3, 0, 31, 0, 0, 0), none, none, some (.lload_n 3, 1, 0, 0, 3, 0, 0),
  some (.lmul, 1, 0, 0, 0, 0, 0), some (.aload_n 0, 1, 0, 0, 0, 0, 0), some (.iconst 1, 1, 1, 0, 0, 0, 0), some (.invokevirtual 204, 3, 0, 0, 102, 1, 6), none, none,
  some (.i2l, 1, 0, 0, 0, 0, 0), some (.ladd, 1, 0, 0, 0, 0, 0), some (.lreturn, 1, 0, 0, 0, 0, 0)])
def zt_X_hasForm : zm_M := (⟨"QuadricFlats", "hasForm", "()Z"⟩, prog_1_method_36_code, 1, some .boolean, 0, false, 6, [
  some (.aload_n 0, 1, 0, 0, 0, 0, 0), some (.getfield 19, 3, 0, 0, 6, 1, 0), none, none, some (.getfield 100, 3, 0, 0, 1, 1, 0), none,
  none, some (.ifCond .ne 5, 3, 0, 0, 12, 0, 0), none, none, some (.iconst 0, 1, 0, 0, 0, 0, 0), some (.ireturn, 1, 0, 0, 0, 0, 0),
  some (.aload_n 0, 1, 0, 0, 0, 0, 0), some (.getfield 298, 3, 0, 0, 6, 13, 0), none, none, some (.ifCond .ne 19, 3, 0, 0, 35, 0, 0), none,
  none, some (.aload_n 0, 1, 0, 0, 0, 0, 0), some (.getfield 29, 3, 0, 0, 6, 3, 0), none, none, some (.aload_n 0, 1, 0, 0, 0, 0, 0),
  some (.getfield 19, 3, 0, 0, 6, 1, 0), none, none, some (.invokevirtual 302, 3, 0, 0, 33, 1, 3), none, none,
  some (.aload_n 0, 1, 0, 0, 0, 0, 0), some (.iconst 1, 1, 1, 0, 0, 0, 0), some (.putfield 298, 3, 0, 0, 6, 13, 2), none, none, some (.iconst 1, 1, 1, 0, 0, 0, 0),
  some (.ireturn, 1, 0, 0, 0, 0, 0)])
def zt_X_hasFlats : zm_M := (⟨"QuadricFlats", "hasFlats", "()Z"⟩, prog_1_method_37_code, 1, some .boolean, 0, false, 6, [
  some (.aload_n 0, 1, 0, 0, 0, 0, 0), some (.invokevirtual 94, 3, 0, 0, 90, 0, 6), none, none, some (.ifCond .eq 13, 3, 0, 0, 17, 0, 0), none,
  none, some (.aload_n 0, 1, 0, 0, 0, 0, 0), some (.getfield 29, 3, 0, 0, 6, 3, 0), none, none, some (.getfield 106, 3, 0, 0, 3, 9, 0),
  none, none, some (.ifCond .le 5, 3, 0, 0, 19, 0, 0), none, none, some (.iconst 0, 1, 0, 0, 0, 0, 0),
  some (.ireturn, 1, 0, 0, 0, 0, 0), some (.aload_n 0, 1, 0, 0, 0, 0, 0), some (.getfield 305, 3, 0, 0, 6, 14, 0), none, none, some (.ifCond .ne 23, 3, 0, 0, 46, 0, 0),
  none, none, some (.aload_n 0, 1, 0, 0, 0, 0, 0), some (.getfield 36, 3, 0, 0, 6, 4, 0), none, none,
  some (.aload_n 0, 1, 0, 0, 0, 0, 0), some (.getfield 29, 3, 0, 0, 6, 3, 0), none, none, some (.invokevirtual 308, 3, 0, 0, 0, 1, 0), none,
  none, some (.aload_n 0, 1, 0, 0, 0, 0, 0), some (.invokevirtual 312, 3, 0, 0, 92, 0, 6), none, none, some (.aload_n 0, 1, 0, 0, 0, 0, 0),
  some (.iconst 1, 1, 1, 0, 0, 0, 0), some (.putfield 305, 3, 0, 0, 6, 14, 2), none, none, some (.iconst 1, 1, 1, 0, 0, 0, 0), some (.ireturn, 1, 0, 0, 0, 0, 0)])
def zt_X_fillSides : zm_M := (⟨"QuadricFlats", "fillSides", "()V"⟩, prog_1_method_38_code, 6, none, 0, false, 6, [
  some (.aload_n 0, 1, 0, 0, 0, 0, 0), some (.getfield 29, 3, 0, 0, 6, 3, 0), none, none, some (.invokevirtual 115, 3, 0, 0, 42, 0, 3), none,
  none, some (.istore_n 1, 1, 0, 0, 1, 0, 0), some (.aload_n 0, 1, 0, 0, 0, 0, 0), some (.getfield 43, 3, 0, 0, 6, 5, 0), none, none,
  some (.aload_n 0, 1, 0, 0, 0, 0, 0), some (.getfield 36, 3, 0, 0, 6, 4, 0), none, none, some (.getfield 315, 3, 0, 0, 0, 3, 0), none,
  none, some (.bipush 64, 2, 64, 0, 0, 0, 0), none, some (.invokestatic 317, 3, 0, 0, 0, 0, 98), none, none,
  some (.putfield 275, 3, 0, 0, 5, 0, 0), none, none, some (.aload_n 0, 1, 0, 0, 0, 0, 0), some (.getfield 47, 3, 0, 0, 6, 6, 0), none,
  none, some (.aload_n 0, 1, 0, 0, 0, 0, 0), some (.getfield 36, 3, 0, 0, 6, 4, 0), none, none, some (.iload_n 1, 1, 0, 0, 1, 0, 0),
  some (.invokevirtual 157, 3, 0, 0, 7, 1, 0), none, none, some (.bipush 64, 2, 64, 0, 0, 0, 0), none, some (.invokestatic 317, 3, 0, 0, 0, 0, 98),
  none, none, some (.putfield 275, 3, 0, 0, 5, 0, 0), none, none, some (.iconst 0, 1, 0, 0, 0, 0, 0),
  some (.istore_n 2, 1, 0, 0, 2, 0, 0), some (.iload_n 2, 1, 0, 0, 2, 0, 0), some (.aload_n 0, 1, 0, 0, 0, 0, 0), some (.getfield 43, 3, 0, 0, 6, 5, 0), none, none,
  some (.getfield 275, 3, 0, 0, 5, 0, 0), none, none, some (.if_icmp .ge 19, 3, 0, 0, 76, 0, 0), none, none,
  some (.aload_n 0, 1, 0, 0, 0, 0, 0), some (.getfield 43, 3, 0, 0, 6, 5, 0), none, none, some (.getfield 185, 3, 0, 0, 5, 1, 0), none,
  none, some (.iload_n 2, 1, 0, 0, 2, 0, 0), some (.lconst 0, 1, 0, 0, 0, 0, 0), some (.lastore, 1, 0, 0, 0, 0, 0), some (.iinc 2 1, 3, 1, 0, 2, 0, 0), none,
  none, some (.goto (-24), 3, 0, 0, 49, 0, 0), none, none, some (.iconst 0, 1, 0, 0, 0, 0, 0), some (.istore_n 2, 1, 0, 0, 2, 0, 0),
  some (.iload_n 2, 1, 0, 0, 2, 0, 0), some (.aload_n 0, 1, 0, 0, 0, 0, 0), some (.getfield 47, 3, 0, 0, 6, 6, 0), none, none, some (.getfield 275, 3, 0, 0, 5, 0, 0),
  none, none, some (.if_icmp .ge 77, 3, 0, 0, 163, 0, 0), none, none, some (.aload_n 0, 1, 0, 0, 0, 0, 0),
  some (.getfield 36, 3, 0, 0, 6, 4, 0), none, none, some (.iload_n 1, 1, 0, 0, 1, 0, 0), some (.iload_n 2, 1, 0, 0, 2, 0, 0), some (.invokevirtual 160, 3, 0, 0, 8, 2, 0),
  none, none, some (.lstore_n 3, 1, 0, 0, 3, 0, 0), some (.aload_n 0, 1, 0, 0, 0, 0, 0), some (.getfield 47, 3, 0, 0, 6, 6, 0), none,
  none, some (.getfield 185, 3, 0, 0, 5, 1, 0), none, none, some (.iload_n 2, 1, 0, 0, 2, 0, 0), some (.lload_n 3, 1, 0, 0, 3, 0, 0),
  some (.lastore, 1, 0, 0, 0, 0, 0), some (.iconst 0, 1, 0, 0, 0, 0, 0), some (.istore 5, 2, 0, 0, 5, 0, 0), none, some (.iload 5, 2, 0, 0, 5, 0, 0), none,
  some (.aload_n 0, 1, 0, 0, 0, 0, 0), some (.getfield 43, 3, 0, 0, 6, 5, 0), none, none, some (.getfield 275, 3, 0, 0, 5, 0, 0), none,
  none, some (.if_icmp .ge 36, 3, 0, 0, 157, 0, 0), none, none, some (.lload_n 3, 1, 0, 0, 3, 0, 0), some (.iload 5, 2, 0, 0, 5, 0, 0),
  none, some (.lushr, 1, 0, 0, 0, 0, 0), some (.lconst 1, 1, 0, 1, 0, 0, 0), some (.land, 1, 0, 0, 0, 0, 0), some (.lconst 0, 1, 0, 0, 0, 0, 0), some (.lcmp, 1, 0, 0, 0, 0, 0),
  some (.ifCond .eq 19, 3, 0, 0, 151, 0, 0), none, none, some (.aload_n 0, 1, 0, 0, 0, 0, 0), some (.getfield 43, 3, 0, 0, 6, 5, 0), none,
  none, some (.getfield 185, 3, 0, 0, 5, 1, 0), none, none, some (.iload 5, 2, 0, 0, 5, 0, 0), none,
  some (.dup2, 1, 0, 0, 0, 0, 0), some (.laload, 1, 0, 0, 0, 0, 0), some (.lconst 1, 1, 0, 1, 0, 0, 0), some (.iload_n 2, 1, 0, 0, 2, 0, 0), some (.lshl, 1, 0, 0, 0, 0, 0), some (.lor, 1, 0, 0, 0, 0, 0),
  some (.lastore, 1, 0, 0, 0, 0, 0), some (.iinc 5 1, 3, 1, 0, 5, 0, 0), none, none, some (.goto (-42), 3, 0, 0, 112, 0, 0), none,
  none, some (.iinc 2 1, 3, 1, 0, 2, 0, 0), none, none, some (.goto (-82), 3, 0, 0, 78, 0, 0), none,
  none, some (.aload_n 0, 1, 0, 0, 0, 0, 0), some (.getfield 43, 3, 0, 0, 6, 5, 0), none, none, some (.aload_n 0, 1, 0, 0, 0, 0, 0),
  some (.getfield 47, 3, 0, 0, 6, 6, 0), none, none, some (.invokevirtual 322, 3, 0, 0, 48, 1, 5), none, none,
  some (.aload_n 0, 1, 0, 0, 0, 0, 0), some (.getfield 47, 3, 0, 0, 6, 6, 0), none, none, some (.aload_n 0, 1, 0, 0, 0, 0, 0), some (.getfield 43, 3, 0, 0, 6, 5, 0),
  none, none, some (.invokevirtual 322, 3, 0, 0, 48, 1, 5), none, none, some (.return_, 1, 0, 0, 0, 0, 0)])
def zt_X_forget : zm_M := (⟨"QuadricFlats", "forget", "()V"⟩, prog_1_method_39_code, 1, none, 0, false, 6, [
  some (.aload_n 0, 1, 0, 0, 0, 0, 0), some (.iconst 0, 1, 0, 0, 0, 0, 0), some (.putfield 298, 3, 0, 0, 6, 13, 2), none, none, some (.aload_n 0, 1, 0, 0, 0, 0, 0),
  some (.iconst 0, 1, 0, 0, 0, 0, 0), some (.putfield 305, 3, 0, 0, 6, 14, 2), none, none, some (.aload_n 0, 1, 0, 0, 0, 0, 0), some (.getfield 43, 3, 0, 0, 6, 5, 0),
  none, none, some (.iconst 0, 1, 0, 0, 0, 0, 0), some (.putfield 196, 3, 0, 0, 5, 4, 0), none, none,
  some (.aload_n 0, 1, 0, 0, 0, 0, 0), some (.getfield 47, 3, 0, 0, 6, 6, 0), none, none, some (.iconst 0, 1, 0, 0, 0, 0, 0), some (.putfield 196, 3, 0, 0, 5, 4, 0),
  none, none, some (.return_, 1, 0, 0, 0, 0, 0)])
def zt_X_hasPoint : zm_M := (⟨"QuadricFlats", "hasPoint", "(I)Z"⟩, prog_1_method_40_code, 2, some .boolean, 1, false, 6, [
  some (.aload_n 0, 1, 0, 0, 0, 0, 0), some (.invokevirtual 94, 3, 0, 0, 90, 0, 6), none, none, some (.ifCond .eq 22, 3, 0, 0, 26, 0, 0), none,
  none, some (.iload_n 1, 1, 0, 0, 1, 0, 0), some (.ifCond .lt 18, 3, 0, 0, 26, 0, 0), none, none, some (.iload_n 1, 1, 0, 0, 1, 0, 0),
  some (.aload_n 0, 1, 0, 0, 0, 0, 0), some (.getfield 29, 3, 0, 0, 6, 3, 0), none, none, some (.getfield 91, 3, 0, 0, 3, 2, 0), none,
  none, some (.if_icmp .ge 7, 3, 0, 0, 26, 0, 0), none, none, some (.iconst 1, 1, 1, 0, 0, 0, 0), some (.goto 4, 3, 0, 0, 27, 0, 0),
  none, none, some (.iconst 0, 1, 0, 0, 0, 0, 0), some (.ireturn, 1, 0, 0, 0, 0, 0)])
def zt_X_isMember : zm_M := (⟨"QuadricFlats", "isMember", "(I)Z"⟩, prog_1_method_41_code, 2, some .boolean, 1, false, 6, [
  some (.aload_n 0, 1, 0, 0, 0, 0, 0), some (.iload_n 1, 1, 0, 0, 1, 0, 0), some (.invokevirtual 126, 3, 0, 0, 94, 1, 6), none, none, some (.ifCond .eq 38, 3, 0, 0, 43, 0, 0),
  none, none, some (.aload_n 0, 1, 0, 0, 0, 0, 0), some (.getfield 29, 3, 0, 0, 6, 3, 0), none, none,
  some (.getfield 182, 3, 0, 0, 3, 7, 0), none, none, some (.iload_n 1, 1, 0, 0, 1, 0, 0), some (.iaload, 1, 0, 0, 0, 0, 0), some (.ifCond .lt 26, 3, 0, 0, 43, 0, 0),
  none, none, some (.aload_n 0, 1, 0, 0, 0, 0, 0), some (.getfield 29, 3, 0, 0, 6, 3, 0), none, none,
  some (.getfield 182, 3, 0, 0, 3, 7, 0), none, none, some (.iload_n 1, 1, 0, 0, 1, 0, 0), some (.iaload, 1, 0, 0, 0, 0, 0), some (.aload_n 0, 1, 0, 0, 0, 0, 0),
  some (.getfield 43, 3, 0, 0, 6, 5, 0), none, none, some (.getfield 275, 3, 0, 0, 5, 0, 0), none, none,
  some (.if_icmp .ge 7, 3, 0, 0, 43, 0, 0), none, none, some (.iconst 1, 1, 1, 0, 0, 0, 0), some (.goto 4, 3, 0, 0, 44, 0, 0), none,
  none, some (.iconst 0, 1, 0, 0, 0, 0, 0), some (.ireturn, 1, 0, 0, 0, 0, 0)])
def zt_X_isGreatest : zm_M := (⟨"QuadricFlats", "isGreatest", "(I)Z"⟩, prog_1_method_42_code, 2, some .boolean, 1, false, 6, [
  some (.iload_n 1, 1, 0, 0, 1, 0, 0), some (.ifCond .lt 18, 3, 0, 0, 19, 0, 0), none, none, some (.iload_n 1, 1, 0, 0, 1, 0, 0), some (.aload_n 0, 1, 0, 0, 0, 0, 0),
  some (.getfield 47, 3, 0, 0, 6, 6, 0), none, none, some (.getfield 275, 3, 0, 0, 5, 0, 0), none, none,
  some (.if_icmp .ge 7, 3, 0, 0, 19, 0, 0), none, none, some (.iconst 1, 1, 1, 0, 0, 0, 0), some (.goto 4, 3, 0, 0, 20, 0, 0), none,
  none, some (.iconst 0, 1, 0, 0, 0, 0, 0), some (.ireturn, 1, 0, 0, 0, 0, 0)])
def zt_X_pointTotal : zm_M := (⟨"QuadricFlats", "pointTotal", "()I"⟩, prog_1_method_43_code, 1, some .int, 0, false, 6, [
  some (.aload_n 0, 1, 0, 0, 0, 0, 0), some (.invokevirtual 94, 3, 0, 0, 90, 0, 6), none, none, some (.ifCond .eq 13, 3, 0, 0, 17, 0, 0), none,
  none, some (.aload_n 0, 1, 0, 0, 0, 0, 0), some (.getfield 29, 3, 0, 0, 6, 3, 0), none, none, some (.getfield 91, 3, 0, 0, 3, 2, 0),
  none, none, some (.goto 4, 3, 0, 0, 18, 0, 0), none, none, some (.iconst 0, 1, 0, 0, 0, 0, 0),
  some (.ireturn, 1, 0, 0, 0, 0, 0)])
def zt_X_memberTotal : zm_M := (⟨"QuadricFlats", "memberTotal", "()I"⟩, prog_1_method_44_code, 1, some .int, 0, false, 6, [
  some (.aload_n 0, 1, 0, 0, 0, 0, 0), some (.invokevirtual 94, 3, 0, 0, 90, 0, 6), none, none, some (.ifCond .eq 13, 3, 0, 0, 17, 0, 0), none,
  none, some (.aload_n 0, 1, 0, 0, 0, 0, 0), some (.getfield 29, 3, 0, 0, 6, 3, 0), none, none, some (.getfield 103, 3, 0, 0, 3, 8, 0),
  none, none, some (.goto 4, 3, 0, 0, 18, 0, 0), none, none, some (.iconst 0, 1, 0, 0, 0, 0, 0),
  some (.ireturn, 1, 0, 0, 0, 0, 0)])
def zt_X_sideOf : zm_M := (⟨"QuadricFlats", "sideOf", "(I)LQuadricFlats$Side;"⟩, prog_1_method_45_code, 2, some (.object "QuadricFlats$Side"), 1, false, 6, [
  some (.iload_n 1, 1, 0, 0, 1, 0, 0), some (.ifCond .ne 10, 3, 0, 0, 11, 0, 0), none, none, some (.aload_n 0, 1, 0, 0, 0, 0, 0), some (.getfield 43, 3, 0, 0, 6, 5, 0),
  none, none, some (.goto 7, 3, 0, 0, 15, 0, 0), none, none, some (.aload_n 0, 1, 0, 0, 0, 0, 0),
  some (.getfield 47, 3, 0, 0, 6, 6, 0), none, none, some (.areturn, 1, 0, 0, 0, 0, 0)])
def zt_X_searchOf : zm_M := (⟨"QuadricFlats", "searchOf", "(I)LQuadricFlats$Search;"⟩, prog_1_method_46_code, 2, some (.object "QuadricFlats$Search"), 1, false, 6, [
  some (.iload_n 1, 1, 0, 0, 1, 0, 0), some (.ifCond .ne 10, 3, 0, 0, 11, 0, 0), none, none, some (.aload_n 0, 1, 0, 0, 0, 0, 0), some (.getfield 55, 3, 0, 0, 6, 7, 0),
  none, none, some (.goto 7, 3, 0, 0, 15, 0, 0), none, none, some (.aload_n 0, 1, 0, 0, 0, 0, 0),
  some (.getfield 59, 3, 0, 0, 6, 8, 0), none, none, some (.areturn, 1, 0, 0, 0, 0, 0)])
def zt_X_entryOf : zm_M := (⟨"QuadricFlats", "entryOf", "(II)I"⟩, prog_1_method_47_code, 3, some .int, 2, false, 6, [
  some (.iload_n 1, 1, 0, 0, 1, 0, 0), some (.ifCond .ne 23, 3, 0, 0, 24, 0, 0), none, none, some (.aload_n 0, 1, 0, 0, 0, 0, 0), some (.getfield 29, 3, 0, 0, 6, 3, 0),
  none, none, some (.getfield 170, 3, 0, 0, 3, 6, 0), none, none, some (.aload_n 0, 1, 0, 0, 0, 0, 0),
  some (.getfield 43, 3, 0, 0, 6, 5, 0), none, none, some (.getfield 326, 3, 0, 0, 5, 3, 0), none, none,
  some (.iload_n 2, 1, 0, 0, 2, 0, 0), some (.iaload, 1, 0, 0, 0, 0, 0), some (.iaload, 1, 0, 0, 0, 0, 0), some (.goto 12, 3, 0, 0, 33, 0, 0), none, none,
  some (.aload_n 0, 1, 0, 0, 0, 0, 0), some (.getfield 47, 3, 0, 0, 6, 6, 0), none, none, some (.getfield 326, 3, 0, 0, 5, 3, 0), none,
  none, some (.iload_n 2, 1, 0, 0, 2, 0, 0), some (.iaload, 1, 0, 0, 0, 0, 0), some (.ireturn, 1, 0, 0, 0, 0, 0)])
def zt_X_missing : zm_M := (⟨"QuadricFlats", "missing", "(I)I"⟩, prog_1_method_48_code, 2, some .int, 1, false, 6, [
  some (.aload_n 0, 1, 0, 0, 0, 0, 0), some (.iconst 1, 1, 1, 0, 0, 0, 0), some (.iload_n 1, 1, 0, 0, 1, 0, 0), some (.isub, 1, 0, 0, 0, 0, 0), some (.invokevirtual 197, 3, 0, 0, 99, 1, 6), none,
  none, some (.getfield 275, 3, 0, 0, 5, 0, 0), none, none, some (.aload_n 0, 1, 0, 0, 0, 0, 0), some (.iload_n 1, 1, 0, 0, 1, 0, 0),
  some (.invokevirtual 197, 3, 0, 0, 99, 1, 6), none, none, some (.invokevirtual 329, 3, 0, 0, 53, 0, 5), none, none,
  some (.invokestatic 164, 3, 0, 0, 216, 1, 0), none, none, some (.isub, 1, 0, 0, 0, 0, 0), some (.ireturn, 1, 0, 0, 0, 0, 0)])
def zt_X_nextSeed : zm_M := (⟨"QuadricFlats", "nextSeed", "(I)I"⟩, prog_1_method_49_code, 1, some .int, 1, true, 6, [
  some (.ldc2_w 332, 3, 0, 1103515245, 0, 0, 0), none, none, some (.iload_n 0, 1, 0, 0, 0, 0, 0), some (.i2l, 1, 0, 0, 0, 0, 0), some (.lmul, 1, 0, 0, 0, 0, 0),
  some (.ldc2_w 334, 3, 0, 12345, 0, 0, 0), none, none, some (.ladd, 1, 0, 0, 0, 0, 0), some (.ldc2_w 336, 3, 0, 2147483647, 0, 0, 0), none,
  none, some (.land, 1, 0, 0, 0, 0, 0), some (.l2i, 1, 0, 0, 0, 0, 0), some (.ireturn, 1, 0, 0, 0, 0, 0)])
def zt_X_mod : zm_M := (⟨"QuadricFlats", "mod", "(II)I"⟩, prog_1_method_50_code, 3, some .int, 2, true, 6, [
  some (.iload_n 1, 1, 0, 0, 1, 0, 0), some (.ifCond .gt 5, 3, 0, 0, 6, 0, 0), none, none, some (.iconst 0, 1, 0, 0, 0, 0, 0), some (.ireturn, 1, 0, 0, 0, 0, 0),
  some (.iload_n 0, 1, 0, 0, 0, 0, 0), some (.iload_n 1, 1, 0, 0, 1, 0, 0), some (.irem, 1, 0, 0, 0, 0, 0), some (.istore_n 2, 1, 0, 0, 2, 0, 0), some (.iload_n 2, 1, 0, 0, 2, 0, 0), some (.ifCond .ge 9, 3, 0, 0, 20, 0, 0),
  none, none, some (.iload_n 2, 1, 0, 0, 2, 0, 0), some (.iload_n 1, 1, 0, 0, 1, 0, 0), some (.iadd, 1, 0, 0, 0, 0, 0), some (.goto 4, 3, 0, 0, 21, 0, 0),
  none, none, some (.iload_n 2, 1, 0, 0, 2, 0, 0), some (.ireturn, 1, 0, 0, 0, 0, 0)])
def zt_X_inverse : zm_M := (⟨"QuadricFlats", "inverse", "(II)I"⟩, prog_1_method_51_code, 2, some .int, 2, true, 6, [
  some (.iload_n 1, 1, 0, 0, 1, 0, 0), some (.iconst 5, 1, 5, 0, 0, 0, 0), some (.if_icmp .ne 19, 3, 0, 0, 21, 0, 0), none, none, some (.iload_n 0, 1, 0, 0, 0, 0, 0),
  some (.iconst 2, 1, 2, 0, 0, 0, 0), some (.if_icmp .eq 8, 3, 0, 0, 15, 0, 0), none, none, some (.iload_n 0, 1, 0, 0, 0, 0, 0), some (.iconst 3, 1, 3, 0, 0, 0, 0),
  some (.if_icmp .ne 9, 3, 0, 0, 21, 0, 0), none, none, some (.iconst 5, 1, 5, 0, 0, 0, 0), some (.iload_n 0, 1, 0, 0, 0, 0, 0), some (.isub, 1, 0, 0, 0, 0, 0),
  some (.goto 4, 3, 0, 0, 22, 0, 0), none, none, some (.iload_n 0, 1, 0, 0, 0, 0, 0), some (.ireturn, 1, 0, 0, 0, 0, 0)])
def zt_X_lowestBit : zm_M := (⟨"QuadricFlats", "lowestBit", "(J)I"⟩, prog_1_method_52_code, 2, some .int, 1, true, 6, [
  some (.lload_n 0, 1, 0, 0, 0, 0, 0), some (.lload_n 0, 1, 0, 0, 0, 0, 0), some (.lneg, 1, 0, 0, 0, 0, 0), some (.land, 1, 0, 0, 0, 0, 0), some (.lconst 1, 1, 0, 1, 0, 0, 0), some (.lsub, 1, 0, 0, 0, 0, 0),
  some (.invokestatic 164, 3, 0, 0, 216, 1, 0), none, none, some (.ireturn, 1, 0, 0, 0, 0, 0)])
def zt_M_within : zm_M := (⟨"QuadricFlatsModel", "within", "(III)Z"⟩, prog_9_method_3_code, 3, some .boolean, 3, true, 7, [
  some (.iload_n 0, 1, 0, 0, 0, 0, 0), some (.iload_n 1, 1, 0, 0, 1, 0, 0), some (.if_icmp .lt 12, 3, 0, 0, 14, 0, 0), none, none, some (.iload_n 0, 1, 0, 0, 0, 0, 0),
  some (.iload_n 2, 1, 0, 0, 2, 0, 0), some (.if_icmp .gt 7, 3, 0, 0, 14, 0, 0), none, none, some (.iconst 1, 1, 1, 0, 0, 0, 0), some (.goto 4, 3, 0, 0, 15, 0, 0),
  none, none, some (.iconst 0, 1, 0, 0, 0, 0, 0), some (.ireturn, 1, 0, 0, 0, 0, 0)])
def zt_M_mod : zm_M := (⟨"QuadricFlatsModel", "mod", "(II)I"⟩, prog_9_method_4_code, 2, some .int, 2, true, 7, [
  some (.iload_n 0, 1, 0, 0, 0, 0, 0), some (.iload_n 1, 1, 0, 0, 1, 0, 0), some (.irem, 1, 0, 0, 0, 0, 0), some (.iload_n 1, 1, 0, 0, 1, 0, 0), some (.iadd, 1, 0, 0, 0, 0, 0), some (.iload_n 1, 1, 0, 0, 1, 0, 0),
  some (.irem, 1, 0, 0, 0, 0, 0), some (.ireturn, 1, 0, 0, 0, 0, 0)])
def zt_M_letter : zm_M := (⟨"QuadricFlatsModel", "letter", "(I)I"⟩, prog_9_method_5_code, 2, some .int, 1, false, 7, [
  some (.iload_n 1, 1, 0, 0, 1, 0, 0), some (.bipush 32, 2, 32, 0, 0, 0, 0), none, some (.bipush 126, 2, 126, 0, 0, 0, 0), none, some (.invokestatic 84, 3, 0, 0, 107, 3, 0),
  none, none, some (.ifCond .ne 6, 3, 0, 0, 14, 0, 0), none, none, some (.bipush (-102), 2, (-102), 0, 0, 0, 0),
  none, some (.ireturn, 1, 0, 0, 0, 0, 0), some (.aload_n 0, 1, 0, 0, 0, 0, 0), some (.getfield 88, 3, 0, 0, 7, 4, 0), none, none,
  some (.bipush 28, 2, 28, 0, 0, 0, 0), none, some (.if_icmp .ne 6, 3, 0, 0, 26, 0, 0), none, none, some (.bipush (-104), 2, (-104), 0, 0, 0, 0),
  none, some (.ireturn, 1, 0, 0, 0, 0, 0), some (.aload_n 0, 1, 0, 0, 0, 0, 0), some (.getfield 13, 3, 0, 0, 7, 5, 0), none, none,
  some (.aload_n 0, 1, 0, 0, 0, 0, 0), some (.getfield 88, 3, 0, 0, 7, 4, 0), none, none, some (.iload_n 1, 1, 0, 0, 1, 0, 0), some (.iastore, 1, 0, 0, 0, 0, 0),
  some (.aload_n 0, 1, 0, 0, 0, 0, 0), some (.dup, 1, 0, 0, 0, 0, 0), some (.getfield 88, 3, 0, 0, 7, 4, 0), none, none, some (.iconst 1, 1, 1, 0, 0, 0, 0),
  some (.iadd, 1, 0, 0, 0, 0, 0), some (.putfield 88, 3, 0, 0, 7, 4, 0), none, none, some (.aload_n 0, 1, 0, 0, 0, 0, 0), some (.getfield 88, 3, 0, 0, 7, 4, 0),
  none, none, some (.ireturn, 1, 0, 0, 0, 0, 0)])
def zt_M_blank : zm_M := (⟨"QuadricFlatsModel", "blank", "()I"⟩, prog_9_method_6_code, 2, some .int, 0, false, 7, [
  some (.aload_n 0, 1, 0, 0, 0, 0, 0), some (.getfield 88, 3, 0, 0, 7, 4, 0), none, none, some (.istore_n 1, 1, 0, 0, 1, 0, 0), some (.aload_n 0, 1, 0, 0, 0, 0, 0),
  some (.iconst 0, 1, 0, 0, 0, 0, 0), some (.putfield 88, 3, 0, 0, 7, 4, 0), none, none, some (.iload_n 1, 1, 0, 0, 1, 0, 0), some (.ireturn, 1, 0, 0, 0, 0, 0)])
def zt_M_mostOf : zm_M := (⟨"QuadricFlatsModel", "mostOf", "(I)I"⟩, prog_9_method_7_code, 1, some .int, 1, true, 7, [
  some (.iload_n 0, 1, 0, 0, 0, 0, 0), some (.iconst 2, 1, 2, 0, 0, 0, 0), some (.if_icmp .ne 8, 3, 0, 0, 10, 0, 0), none, none, some (.bipush 6, 2, 6, 0, 0, 0, 0),
  none, some (.goto 13, 3, 0, 0, 20, 0, 0), none, none, some (.iload_n 0, 1, 0, 0, 0, 0, 0), some (.iconst 3, 1, 3, 0, 0, 0, 0),
  some (.if_icmp .ne 7, 3, 0, 0, 19, 0, 0), none, none, some (.iconst 5, 1, 5, 0, 0, 0, 0), some (.goto 4, 3, 0, 0, 20, 0, 0), none,
  none, some (.iconst 4, 1, 4, 0, 0, 0, 0), some (.ireturn, 1, 0, 0, 0, 0, 0)])
def zt_M_takesDigit : zm_M := (⟨"QuadricFlatsModel", "takesDigit", "(I)Z"⟩, prog_9_method_8_code, 4, some .boolean, 1, false, 7, [
  some (.aload_n 0, 1, 0, 0, 0, 0, 0), some (.getfield 92, 3, 0, 0, 7, 17, 0), none, none, some (.ifCond .ne 13, 3, 0, 0, 17, 0, 0), none,
  none, some (.aload_n 0, 1, 0, 0, 0, 0, 0), some (.getfield 95, 3, 0, 0, 7, 16, 0), none, none, some (.invokestatic 98, 3, 0, 0, 111, 1, 0),
  none, none, some (.goto 12, 3, 0, 0, 26, 0, 0), none, none, some (.aload_n 0, 1, 0, 0, 0, 0, 0),
  some (.getfield 92, 3, 0, 0, 7, 17, 0), none, none, some (.aload_n 0, 1, 0, 0, 0, 0, 0), some (.getfield 102, 3, 0, 0, 7, 18, 0), none,
  none, some (.isub, 1, 0, 0, 0, 0, 0), some (.istore_n 2, 1, 0, 0, 2, 0, 0), some (.aload_n 0, 1, 0, 0, 0, 0, 0), some (.getfield 105, 3, 0, 0, 7, 19, 0), none,
  none, some (.iload_n 2, 1, 0, 0, 2, 0, 0), some (.if_icmp .ge 25, 3, 0, 0, 57, 0, 0), none, none, some (.iload_n 1, 1, 0, 0, 1, 0, 0),
  some (.bipush 48, 2, 48, 0, 0, 0, 0), none, some (.bipush 48, 2, 48, 0, 0, 0, 0), none, some (.aload_n 0, 1, 0, 0, 0, 0, 0), some (.getfield 95, 3, 0, 0, 7, 16, 0),
  none, none, some (.iadd, 1, 0, 0, 0, 0, 0), some (.iconst 1, 1, 1, 0, 0, 0, 0), some (.isub, 1, 0, 0, 0, 0, 0), some (.invokestatic 84, 3, 0, 0, 107, 3, 0),
  none, none, some (.ifCond .eq 7, 3, 0, 0, 57, 0, 0), none, none, some (.iconst 1, 1, 1, 0, 0, 0, 0),
  some (.goto 4, 3, 0, 0, 58, 0, 0), none, none, some (.iconst 0, 1, 0, 0, 0, 0, 0), some (.istore_n 3, 1, 0, 0, 3, 0, 0), some (.iload_n 3, 1, 0, 0, 3, 0, 0),
  some (.ifCond .eq 39, 3, 0, 0, 99, 0, 0), none, none, some (.aload_n 0, 1, 0, 0, 0, 0, 0), some (.getfield 32, 3, 0, 0, 7, 20, 0), none,
  none, some (.bipush 6, 2, 6, 0, 0, 0, 0), none, some (.aload_n 0, 1, 0, 0, 0, 0, 0), some (.getfield 102, 3, 0, 0, 7, 18, 0), none,
  none, some (.imul, 1, 0, 0, 0, 0, 0), some (.aload_n 0, 1, 0, 0, 0, 0, 0), some (.getfield 102, 3, 0, 0, 7, 18, 0), none, none,
  some (.iadd, 1, 0, 0, 0, 0, 0), some (.aload_n 0, 1, 0, 0, 0, 0, 0), some (.getfield 105, 3, 0, 0, 7, 19, 0), none, none, some (.iadd, 1, 0, 0, 0, 0, 0),
  some (.iload_n 1, 1, 0, 0, 1, 0, 0), some (.bipush 48, 2, 48, 0, 0, 0, 0), none, some (.isub, 1, 0, 0, 0, 0, 0), some (.iastore, 1, 0, 0, 0, 0, 0), some (.aload_n 0, 1, 0, 0, 0, 0, 0),
  some (.dup, 1, 0, 0, 0, 0, 0), some (.getfield 105, 3, 0, 0, 7, 19, 0), none, none, some (.iconst 1, 1, 1, 0, 0, 0, 0), some (.iadd, 1, 0, 0, 0, 0, 0),
  some (.putfield 105, 3, 0, 0, 7, 19, 0), none, none, some (.iload_n 3, 1, 0, 0, 3, 0, 0), some (.ireturn, 1, 0, 0, 0, 0, 0)])
def zt_M_takesSlash : zm_M := (⟨"QuadricFlatsModel", "takesSlash", "(I)Z"⟩, prog_9_method_9_code, 4, some .boolean, 1, false, 7, [
  some (.aload_n 0, 1, 0, 0, 0, 0, 0), some (.getfield 92, 3, 0, 0, 7, 17, 0), none, none, some (.ifCond .ne 7, 3, 0, 0, 11, 0, 0), none,
  none, some (.iconst 1, 1, 1, 0, 0, 0, 0), some (.goto 4, 3, 0, 0, 12, 0, 0), none, none, some (.iconst 0, 1, 0, 0, 0, 0, 0),
  some (.istore_n 2, 1, 0, 0, 2, 0, 0), some (.iload_n 1, 1, 0, 0, 1, 0, 0), some (.bipush 47, 2, 47, 0, 0, 0, 0), none, some (.if_icmp .ne 51, 3, 0, 0, 67, 0, 0), none,
  none, some (.iload_n 2, 1, 0, 0, 2, 0, 0), some (.ifCond .eq 14, 3, 0, 0, 34, 0, 0), none, none, some (.aload_n 0, 1, 0, 0, 0, 0, 0),
  some (.getfield 105, 3, 0, 0, 7, 19, 0), none, none, some (.iconst 3, 1, 3, 0, 0, 0, 0), some (.if_icmp .lt 39, 3, 0, 0, 67, 0, 0), none,
  none, some (.goto 32, 3, 0, 0, 63, 0, 0), none, none, some (.aload_n 0, 1, 0, 0, 0, 0, 0), some (.getfield 105, 3, 0, 0, 7, 19, 0),
  none, none, some (.aload_n 0, 1, 0, 0, 0, 0, 0), some (.getfield 92, 3, 0, 0, 7, 17, 0), none, none,
  some (.aload_n 0, 1, 0, 0, 0, 0, 0), some (.getfield 102, 3, 0, 0, 7, 18, 0), none, none, some (.isub, 1, 0, 0, 0, 0, 0), some (.if_icmp .ne 20, 3, 0, 0, 67, 0, 0),
  none, none, some (.aload_n 0, 1, 0, 0, 0, 0, 0), some (.getfield 102, 3, 0, 0, 7, 18, 0), none, none,
  some (.aload_n 0, 1, 0, 0, 0, 0, 0), some (.getfield 92, 3, 0, 0, 7, 17, 0), none, none, some (.iconst 1, 1, 1, 0, 0, 0, 0), some (.isub, 1, 0, 0, 0, 0, 0),
  some (.if_icmp .ge 7, 3, 0, 0, 67, 0, 0), none, none, some (.iconst 1, 1, 1, 0, 0, 0, 0), some (.goto 4, 3, 0, 0, 68, 0, 0), none,
  none, some (.iconst 0, 1, 0, 0, 0, 0, 0), some (.istore_n 3, 1, 0, 0, 3, 0, 0), some (.iload_n 3, 1, 0, 0, 3, 0, 0), some (.ifCond .eq 37, 3, 0, 0, 107, 0, 0), none,
  none, some (.aload_n 0, 1, 0, 0, 0, 0, 0), some (.iload_n 2, 1, 0, 0, 2, 0, 0), some (.ifCond .eq 10, 3, 0, 0, 85, 0, 0), none, none,
  some (.aload_n 0, 1, 0, 0, 0, 0, 0), some (.getfield 105, 3, 0, 0, 7, 19, 0), none, none, some (.goto 7, 3, 0, 0, 89, 0, 0), none,
  none, some (.aload_n 0, 1, 0, 0, 0, 0, 0), some (.getfield 92, 3, 0, 0, 7, 17, 0), none, none, some (.putfield 92, 3, 0, 0, 7, 17, 0),
  none, none, some (.aload_n 0, 1, 0, 0, 0, 0, 0), some (.dup, 1, 0, 0, 0, 0, 0), some (.getfield 102, 3, 0, 0, 7, 18, 0), none,
  none, some (.iconst 1, 1, 1, 0, 0, 0, 0), some (.iadd, 1, 0, 0, 0, 0, 0), some (.putfield 102, 3, 0, 0, 7, 18, 0), none, none,
  some (.aload_n 0, 1, 0, 0, 0, 0, 0), some (.iconst 0, 1, 0, 0, 0, 0, 0), some (.putfield 105, 3, 0, 0, 7, 19, 0), none, none, some (.iload_n 3, 1, 0, 0, 3, 0, 0),
  some (.ireturn, 1, 0, 0, 0, 0, 0)])
def zt_M_takes : zm_M := (⟨"QuadricFlatsModel", "takes", "(II)Z"⟩, prog_9_method_10_code, 3, some .boolean, 2, false, 7, [
  some (.iload_n 1, 1, 0, 0, 1, 0, 0), some (.ifCond .ne 35, 3, 0, 0, 36, 0, 0), none, none, some (.aload_n 0, 1, 0, 0, 0, 0, 0), some (.iload_n 2, 1, 0, 0, 2, 0, 0),
  some (.bipush 48, 2, 48, 0, 0, 0, 0), none, some (.isub, 1, 0, 0, 0, 0, 0), some (.putfield 95, 3, 0, 0, 7, 16, 0), none, none,
  some (.iload_n 2, 1, 0, 0, 2, 0, 0), some (.bipush 50, 2, 50, 0, 0, 0, 0), none, some (.if_icmp .eq 15, 3, 0, 0, 30, 0, 0), none, none,
  some (.iload_n 2, 1, 0, 0, 2, 0, 0), some (.bipush 51, 2, 51, 0, 0, 0, 0), none, some (.if_icmp .eq 9, 3, 0, 0, 30, 0, 0), none, none,
  some (.iload_n 2, 1, 0, 0, 2, 0, 0), some (.bipush 53, 2, 53, 0, 0, 0, 0), none, some (.if_icmp .ne 7, 3, 0, 0, 34, 0, 0), none, none,
  some (.iconst 1, 1, 1, 0, 0, 0, 0), some (.goto 4, 3, 0, 0, 35, 0, 0), none, none, some (.iconst 0, 1, 0, 0, 0, 0, 0), some (.ireturn, 1, 0, 0, 0, 0, 0),
  some (.iload_n 1, 1, 0, 0, 1, 0, 0), some (.iconst 1, 1, 1, 0, 0, 0, 0), some (.if_icmp .ne 15, 3, 0, 0, 53, 0, 0), none, none, some (.iload_n 2, 1, 0, 0, 2, 0, 0),
  some (.bipush 58, 2, 58, 0, 0, 0, 0), none, some (.if_icmp .ne 7, 3, 0, 0, 51, 0, 0), none, none, some (.iconst 1, 1, 1, 0, 0, 0, 0),
  some (.goto 4, 3, 0, 0, 52, 0, 0), none, none, some (.iconst 0, 1, 0, 0, 0, 0, 0), some (.ireturn, 1, 0, 0, 0, 0, 0), some (.aload_n 0, 1, 0, 0, 0, 0, 0),
  some (.iload_n 2, 1, 0, 0, 2, 0, 0), some (.invokevirtual 108, 3, 0, 0, 112, 1, 7), none, none, some (.ifCond .ne 11, 3, 0, 0, 69, 0, 0), none,
  none, some (.aload_n 0, 1, 0, 0, 0, 0, 0), some (.iload_n 2, 1, 0, 0, 2, 0, 0), some (.invokevirtual 112, 3, 0, 0, 113, 1, 7), none, none,
  some (.ifCond .eq 7, 3, 0, 0, 73, 0, 0), none, none, some (.iconst 1, 1, 1, 0, 0, 0, 0), some (.goto 4, 3, 0, 0, 74, 0, 0), none,
  none, some (.iconst 0, 1, 0, 0, 0, 0, 0), some (.ireturn, 1, 0, 0, 0, 0, 0)])
def zt_M_read : zm_M := (⟨"QuadricFlatsModel", "read", "()I"⟩, prog_9_method_11_code, 2, some .int, 0, false, 7, [
  some (.aload_n 0, 1, 0, 0, 0, 0, 0), some (.iconst 0, 1, 0, 0, 0, 0, 0), some (.putfield 92, 3, 0, 0, 7, 17, 0), none, none, some (.aload_n 0, 1, 0, 0, 0, 0, 0),
  some (.iconst 0, 1, 0, 0, 0, 0, 0), some (.putfield 102, 3, 0, 0, 7, 18, 0), none, none, some (.aload_n 0, 1, 0, 0, 0, 0, 0), some (.iconst 0, 1, 0, 0, 0, 0, 0),
  some (.putfield 105, 3, 0, 0, 7, 19, 0), none, none, some (.iconst 0, 1, 0, 0, 0, 0, 0), some (.istore_n 1, 1, 0, 0, 1, 0, 0), some (.iload_n 1, 1, 0, 0, 1, 0, 0),
  some (.aload_n 0, 1, 0, 0, 0, 0, 0), some (.getfield 88, 3, 0, 0, 7, 4, 0), none, none, some (.if_icmp .ge 23, 3, 0, 0, 45, 0, 0), none,
  none, some (.aload_n 0, 1, 0, 0, 0, 0, 0), some (.iload_n 1, 1, 0, 0, 1, 0, 0), some (.aload_n 0, 1, 0, 0, 0, 0, 0), some (.getfield 13, 3, 0, 0, 7, 5, 0), none,
  none, some (.iload_n 1, 1, 0, 0, 1, 0, 0), some (.iaload, 1, 0, 0, 0, 0, 0), some (.invokevirtual 115, 3, 0, 0, 114, 2, 7), none, none,
  some (.ifCond .eq 9, 3, 0, 0, 45, 0, 0), none, none, some (.iinc 1 1, 3, 1, 0, 1, 0, 0), none, none,
  some (.goto (-25), 3, 0, 0, 17, 0, 0), none, none, some (.iload_n 1, 1, 0, 0, 1, 0, 0), some (.ireturn, 1, 0, 0, 0, 0, 0)])
def zt_M_fault : zm_M := (⟨"QuadricFlatsModel", "fault", "()I"⟩, prog_9_method_12_code, 1, some .int, 0, false, 7, [
  some (.aload_n 0, 1, 0, 0, 0, 0, 0), some (.invokevirtual 119, 3, 0, 0, 115, 0, 7), none, none, some (.ireturn, 1, 0, 0, 0, 0, 0)])
def zt_M_form : zm_M := (⟨"QuadricFlatsModel", "form", "()I"⟩, prog_9_method_13_code, 3, some .int, 0, false, 7, [
  some (.aload_n 0, 1, 0, 0, 0, 0, 0), some (.invokevirtual 119, 3, 0, 0, 115, 0, 7), none, none, some (.aload_n 0, 1, 0, 0, 0, 0, 0), some (.getfield 88, 3, 0, 0, 7, 4, 0),
  none, none, some (.if_icmp .lt 30, 3, 0, 0, 38, 0, 0), none, none, some (.aload_n 0, 1, 0, 0, 0, 0, 0),
  some (.getfield 92, 3, 0, 0, 7, 17, 0), none, none, some (.ifCond .eq 23, 3, 0, 0, 38, 0, 0), none, none,
  some (.aload_n 0, 1, 0, 0, 0, 0, 0), some (.getfield 102, 3, 0, 0, 7, 18, 0), none, none, some (.aload_n 0, 1, 0, 0, 0, 0, 0), some (.getfield 92, 3, 0, 0, 7, 17, 0),
  none, none, some (.iconst 1, 1, 1, 0, 0, 0, 0), some (.isub, 1, 0, 0, 0, 0, 0), some (.if_icmp .lt 10, 3, 0, 0, 38, 0, 0), none,
  none, some (.aload_n 0, 1, 0, 0, 0, 0, 0), some (.getfield 105, 3, 0, 0, 7, 19, 0), none, none, some (.ifCond .ne 6, 3, 0, 0, 41, 0, 0),
  none, none, some (.bipush (-103), 2, (-103), 0, 0, 0, 0), none, some (.ireturn, 1, 0, 0, 0, 0, 0), some (.aload_n 0, 1, 0, 0, 0, 0, 0),
  some (.aload_n 0, 1, 0, 0, 0, 0, 0), some (.getfield 95, 3, 0, 0, 7, 16, 0), none, none, some (.putfield 123, 3, 0, 0, 7, 0, 0), none,
  none, some (.aload_n 0, 1, 0, 0, 0, 0, 0), some (.aload_n 0, 1, 0, 0, 0, 0, 0), some (.getfield 92, 3, 0, 0, 7, 17, 0), none, none,
  some (.putfield 126, 3, 0, 0, 7, 1, 0), none, none, some (.iconst 0, 1, 0, 0, 0, 0, 0), some (.istore_n 1, 1, 0, 0, 1, 0, 0), some (.iload_n 1, 1, 0, 0, 1, 0, 0),
  some (.aload_n 0, 1, 0, 0, 0, 0, 0), some (.getfield 126, 3, 0, 0, 7, 1, 0), none, none, some (.if_icmp .ge 47, 3, 0, 0, 111, 0, 0), none,
  none, some (.iload_n 1, 1, 0, 0, 1, 0, 0), some (.istore_n 2, 1, 0, 0, 2, 0, 0), some (.iload_n 2, 1, 0, 0, 2, 0, 0), some (.aload_n 0, 1, 0, 0, 0, 0, 0), some (.getfield 126, 3, 0, 0, 7, 1, 0),
  none, none, some (.if_icmp .ge 31, 3, 0, 0, 105, 0, 0), none, none, some (.aload_n 0, 1, 0, 0, 0, 0, 0),
  some (.getfield 7, 3, 0, 0, 7, 2, 0), none, none, some (.bipush 6, 2, 6, 0, 0, 0, 0), none, some (.iload_n 1, 1, 0, 0, 1, 0, 0),
  some (.imul, 1, 0, 0, 0, 0, 0), some (.iload_n 2, 1, 0, 0, 2, 0, 0), some (.iadd, 1, 0, 0, 0, 0, 0), some (.aload_n 0, 1, 0, 0, 0, 0, 0), some (.getfield 32, 3, 0, 0, 7, 20, 0), none,
  none, some (.bipush 6, 2, 6, 0, 0, 0, 0), none, some (.iload_n 1, 1, 0, 0, 1, 0, 0), some (.imul, 1, 0, 0, 0, 0, 0), some (.iload_n 2, 1, 0, 0, 2, 0, 0),
  some (.iadd, 1, 0, 0, 0, 0, 0), some (.iaload, 1, 0, 0, 0, 0, 0), some (.iastore, 1, 0, 0, 0, 0, 0), some (.iinc 2 1, 3, 1, 0, 2, 0, 0), none, none,
  some (.goto (-33), 3, 0, 0, 69, 0, 0), none, none, some (.iinc 1 1, 3, 1, 0, 1, 0, 0), none, none,
  some (.goto (-49), 3, 0, 0, 59, 0, 0), none, none, some (.aload_n 0, 1, 0, 0, 0, 0, 0), some (.dup, 1, 0, 0, 0, 0, 0), some (.getfield 129, 3, 0, 0, 7, 3, 0),
  none, none, some (.iconst 1, 1, 1, 0, 0, 0, 0), some (.iadd, 1, 0, 0, 0, 0, 0), some (.putfield 129, 3, 0, 0, 7, 3, 0), none,
  none, some (.aload_n 0, 1, 0, 0, 0, 0, 0), some (.iconst 0, 1, 0, 0, 0, 0, 0), some (.putfield 88, 3, 0, 0, 7, 4, 0), none, none,
  some (.aload_n 0, 1, 0, 0, 0, 0, 0), some (.invokevirtual 132, 3, 0, 0, 120, 0, 7), none, none, some (.aload_n 0, 1, 0, 0, 0, 0, 0), some (.invokevirtual 135, 3, 0, 0, 140, 0, 7),
  none, none, some (.aload_n 0, 1, 0, 0, 0, 0, 0), some (.getfield 138, 3, 0, 0, 7, 6, 0), none, none,
  some (.ireturn, 1, 0, 0, 0, 0, 0)])
def zt_M_firstOf : zm_M := (⟨"QuadricFlatsModel", "firstOf", "([I)I"⟩, prog_9_method_15_code, 2, some .int, 1, true, 7, [
  some (.iconst 0, 1, 0, 0, 0, 0, 0), some (.istore_n 1, 1, 0, 0, 1, 0, 0), some (.iload_n 1, 1, 0, 0, 1, 0, 0), some (.bipush 6, 2, 6, 0, 0, 0, 0), none, some (.if_icmp .ge 15, 3, 0, 0, 20, 0, 0),
  none, none, some (.aload_n 0, 1, 0, 0, 0, 0, 0), some (.iload_n 1, 1, 0, 0, 1, 0, 0), some (.iaload, 1, 0, 0, 0, 0, 0), some (.ifCond .ne 9, 3, 0, 0, 20, 0, 0),
  none, none, some (.iinc 1 1, 3, 1, 0, 1, 0, 0), none, none, some (.goto (-15), 3, 0, 0, 2, 0, 0),
  none, none, some (.iload_n 1, 1, 0, 0, 1, 0, 0), some (.bipush 6, 2, 6, 0, 0, 0, 0), none, some (.if_icmp .ge 9, 3, 0, 0, 32, 0, 0),
  none, none, some (.aload_n 0, 1, 0, 0, 0, 0, 0), some (.iload_n 1, 1, 0, 0, 1, 0, 0), some (.iaload, 1, 0, 0, 0, 0, 0), some (.goto 4, 3, 0, 0, 33, 0, 0),
  none, none, some (.iconst 0, 1, 0, 0, 0, 0, 0), some (.ireturn, 1, 0, 0, 0, 0, 0)])
def zt_M_layRow : zm_M := (⟨"QuadricFlatsModel", "layRow", "(I)V"⟩, prog_9_method_16_code, 4, none, 1, false, 7, [
  some (.iload_n 1, 1, 0, 0, 1, 0, 0), some (.istore_n 2, 1, 0, 0, 2, 0, 0), some (.iconst 5, 1, 5, 0, 0, 0, 0), some (.istore_n 3, 1, 0, 0, 3, 0, 0), some (.iload_n 3, 1, 0, 0, 3, 0, 0), some (.ifCond .lt 52, 3, 0, 0, 57, 0, 0),
  none, none, some (.aload_n 0, 1, 0, 0, 0, 0, 0), some (.getfield 35, 3, 0, 0, 7, 21, 0), none, none,
  some (.iload_n 3, 1, 0, 0, 3, 0, 0), some (.iload_n 3, 1, 0, 0, 3, 0, 0), some (.aload_n 0, 1, 0, 0, 0, 0, 0), some (.getfield 126, 3, 0, 0, 7, 1, 0), none, none,
  some (.if_icmp .ge 12, 3, 0, 0, 30, 0, 0), none, none, some (.iload_n 2, 1, 0, 0, 2, 0, 0), some (.aload_n 0, 1, 0, 0, 0, 0, 0), some (.getfield 123, 3, 0, 0, 7, 0, 0),
  none, none, some (.irem, 1, 0, 0, 0, 0, 0), some (.goto 4, 3, 0, 0, 31, 0, 0), none, none,
  some (.iconst 0, 1, 0, 0, 0, 0, 0), some (.iastore, 1, 0, 0, 0, 0, 0), some (.iload_n 3, 1, 0, 0, 3, 0, 0), some (.aload_n 0, 1, 0, 0, 0, 0, 0), some (.getfield 126, 3, 0, 0, 7, 1, 0), none,
  none, some (.if_icmp .ge 12, 3, 0, 0, 49, 0, 0), none, none, some (.iload_n 2, 1, 0, 0, 2, 0, 0), some (.aload_n 0, 1, 0, 0, 0, 0, 0),
  some (.getfield 123, 3, 0, 0, 7, 0, 0), none, none, some (.idiv, 1, 0, 0, 0, 0, 0), some (.goto 4, 3, 0, 0, 50, 0, 0), none,
  none, some (.iload_n 2, 1, 0, 0, 2, 0, 0), some (.istore_n 2, 1, 0, 0, 2, 0, 0), some (.iinc 3 (-1), 3, (-1), 0, 3, 0, 0), none, none,
  some (.goto (-50), 3, 0, 0, 4, 0, 0), none, none, some (.return_, 1, 0, 0, 0, 0, 0)])
def zt_M_layPoints : zm_M := (⟨"QuadricFlatsModel", "layPoints", "()V"⟩, prog_9_method_17_code, 4, none, 0, false, 7, [
  some (.iconst 1, 1, 1, 0, 0, 0, 0), some (.istore_n 1, 1, 0, 0, 1, 0, 0), some (.iconst 0, 1, 0, 0, 0, 0, 0), some (.istore_n 2, 1, 0, 0, 2, 0, 0), some (.iload_n 2, 1, 0, 0, 2, 0, 0), some (.aload_n 0, 1, 0, 0, 0, 0, 0),
  some (.getfield 126, 3, 0, 0, 7, 1, 0), none, none, some (.if_icmp .ge 16, 3, 0, 0, 25, 0, 0), none, none,
  some (.iload_n 1, 1, 0, 0, 1, 0, 0), some (.aload_n 0, 1, 0, 0, 0, 0, 0), some (.getfield 123, 3, 0, 0, 7, 0, 0), none, none, some (.imul, 1, 0, 0, 0, 0, 0),
  some (.istore_n 1, 1, 0, 0, 1, 0, 0), some (.iinc 2 1, 3, 1, 0, 2, 0, 0), none, none, some (.goto (-18), 3, 0, 0, 4, 0, 0), none,
  none, some (.aload_n 0, 1, 0, 0, 0, 0, 0), some (.iconst 0, 1, 0, 0, 0, 0, 0), some (.putfield 138, 3, 0, 0, 7, 6, 0), none, none,
  some (.iconst 1, 1, 1, 0, 0, 0, 0), some (.istore_n 2, 1, 0, 0, 2, 0, 0), some (.iload_n 2, 1, 0, 0, 2, 0, 0), some (.iload_n 1, 1, 0, 0, 1, 0, 0), some (.if_icmp .ge 86, 3, 0, 0, 120, 0, 0), none,
  none, some (.aload_n 0, 1, 0, 0, 0, 0, 0), some (.iload_n 2, 1, 0, 0, 2, 0, 0), some (.invokevirtual 141, 3, 0, 0, 119, 1, 7), none, none,
  some (.aload_n 0, 1, 0, 0, 0, 0, 0), some (.getfield 19, 3, 0, 0, 7, 8, 0), none, none, some (.iload_n 2, 1, 0, 0, 2, 0, 0), some (.iconst (-1), 1, (-1), 0, 0, 0, 0),
  some (.iastore, 1, 0, 0, 0, 0, 0), some (.aload_n 0, 1, 0, 0, 0, 0, 0), some (.getfield 35, 3, 0, 0, 7, 21, 0), none, none, some (.invokestatic 145, 3, 0, 0, 118, 1, 0),
  none, none, some (.iconst 1, 1, 1, 0, 0, 0, 0), some (.if_icmp .ne 57, 3, 0, 0, 114, 0, 0), none, none,
  some (.aload_n 0, 1, 0, 0, 0, 0, 0), some (.getfield 19, 3, 0, 0, 7, 8, 0), none, none, some (.iload_n 2, 1, 0, 0, 2, 0, 0), some (.aload_n 0, 1, 0, 0, 0, 0, 0),
  some (.getfield 138, 3, 0, 0, 7, 6, 0), none, none, some (.iastore, 1, 0, 0, 0, 0, 0), some (.iconst 0, 1, 0, 0, 0, 0, 0), some (.istore_n 3, 1, 0, 0, 3, 0, 0),
  some (.iload_n 3, 1, 0, 0, 3, 0, 0), some (.bipush 6, 2, 6, 0, 0, 0, 0), none, some (.if_icmp .ge 29, 3, 0, 0, 104, 0, 0), none, none,
  some (.aload_n 0, 1, 0, 0, 0, 0, 0), some (.getfield 16, 3, 0, 0, 7, 7, 0), none, none, some (.bipush 6, 2, 6, 0, 0, 0, 0), none,
  some (.aload_n 0, 1, 0, 0, 0, 0, 0), some (.getfield 138, 3, 0, 0, 7, 6, 0), none, none, some (.imul, 1, 0, 0, 0, 0, 0), some (.iload_n 3, 1, 0, 0, 3, 0, 0),
  some (.iadd, 1, 0, 0, 0, 0, 0), some (.aload_n 0, 1, 0, 0, 0, 0, 0), some (.getfield 35, 3, 0, 0, 7, 21, 0), none, none, some (.iload_n 3, 1, 0, 0, 3, 0, 0),
  some (.iaload, 1, 0, 0, 0, 0, 0), some (.iastore, 1, 0, 0, 0, 0, 0), some (.iinc 3 1, 3, 1, 0, 3, 0, 0), none, none, some (.goto (-29), 3, 0, 0, 72, 0, 0),
  none, none, some (.aload_n 0, 1, 0, 0, 0, 0, 0), some (.dup, 1, 0, 0, 0, 0, 0), some (.getfield 138, 3, 0, 0, 7, 6, 0), none,
  none, some (.iconst 1, 1, 1, 0, 0, 0, 0), some (.iadd, 1, 0, 0, 0, 0, 0), some (.putfield 138, 3, 0, 0, 7, 6, 0), none, none,
  some (.iinc 2 1, 3, 1, 0, 2, 0, 0), none, none, some (.goto (-85), 3, 0, 0, 32, 0, 0), none, none,
  some (.return_, 1, 0, 0, 0, 0, 0)])
def zt_M_pointOf : zm_M := (⟨"QuadricFlatsModel", "pointOf", "([I)I"⟩, prog_9_method_18_code, 6, some .int, 1, false, 7, [
  some (.aload_n 1, 1, 0, 0, 1, 0, 0), some (.invokestatic 145, 3, 0, 0, 118, 1, 0), none, none, some (.istore_n 2, 1, 0, 0, 2, 0, 0), some (.iconst 1, 1, 1, 0, 0, 0, 0),
  some (.istore_n 3, 1, 0, 0, 3, 0, 0), some (.iload_n 2, 1, 0, 0, 2, 0, 0), some (.ifCond .eq 21, 3, 0, 0, 29, 0, 0), none, none, some (.iload_n 2, 1, 0, 0, 2, 0, 0),
  some (.iload_n 3, 1, 0, 0, 3, 0, 0), some (.imul, 1, 0, 0, 0, 0, 0), some (.aload_n 0, 1, 0, 0, 0, 0, 0), some (.getfield 123, 3, 0, 0, 7, 0, 0), none, none,
  some (.irem, 1, 0, 0, 0, 0, 0), some (.iconst 1, 1, 1, 0, 0, 0, 0), some (.if_icmp .eq 9, 3, 0, 0, 29, 0, 0), none, none, some (.iinc 3 1, 3, 1, 0, 3, 0, 0),
  none, none, some (.goto (-19), 3, 0, 0, 7, 0, 0), none, none, some (.iconst 0, 1, 0, 0, 0, 0, 0),
  some (.istore 4, 2, 0, 0, 4, 0, 0), none, some (.iconst 0, 1, 0, 0, 0, 0, 0), some (.istore 5, 2, 0, 0, 5, 0, 0), none, some (.iload 5, 2, 0, 0, 5, 0, 0),
  none, some (.aload_n 0, 1, 0, 0, 0, 0, 0), some (.getfield 126, 3, 0, 0, 7, 1, 0), none, none, some (.if_icmp .ge 30, 3, 0, 0, 71, 0, 0),
  none, none, some (.iload 4, 2, 0, 0, 4, 0, 0), none, some (.aload_n 0, 1, 0, 0, 0, 0, 0), some (.getfield 123, 3, 0, 0, 7, 0, 0),
  none, none, some (.imul, 1, 0, 0, 0, 0, 0), some (.aload_n 1, 1, 0, 0, 1, 0, 0), some (.iload 5, 2, 0, 0, 5, 0, 0), none,
  some (.iaload, 1, 0, 0, 0, 0, 0), some (.iload_n 3, 1, 0, 0, 3, 0, 0), some (.imul, 1, 0, 0, 0, 0, 0), some (.aload_n 0, 1, 0, 0, 0, 0, 0), some (.getfield 123, 3, 0, 0, 7, 0, 0), none,
  none, some (.irem, 1, 0, 0, 0, 0, 0), some (.iadd, 1, 0, 0, 0, 0, 0), some (.istore 4, 2, 0, 0, 4, 0, 0), none, some (.iinc 5 1, 3, 1, 0, 5, 0, 0),
  none, none, some (.goto (-33), 3, 0, 0, 35, 0, 0), none, none, some (.iload_n 2, 1, 0, 0, 2, 0, 0),
  some (.ifCond .ne 7, 3, 0, 0, 79, 0, 0), none, none, some (.iconst (-1), 1, (-1), 0, 0, 0, 0), some (.goto 10, 3, 0, 0, 86, 0, 0), none,
  none, some (.aload_n 0, 1, 0, 0, 0, 0, 0), some (.getfield 19, 3, 0, 0, 7, 8, 0), none, none, some (.iload 4, 2, 0, 0, 4, 0, 0),
  none, some (.iaload, 1, 0, 0, 0, 0, 0), some (.ireturn, 1, 0, 0, 0, 0, 0)])
def zt_M_valueOf : zm_M := (⟨"QuadricFlatsModel", "valueOf", "([I)I"⟩, prog_9_method_19_code, 5, some .int, 1, false, 7, [
  some (.iconst 0, 1, 0, 0, 0, 0, 0), some (.istore_n 2, 1, 0, 0, 2, 0, 0), some (.iconst 0, 1, 0, 0, 0, 0, 0), some (.istore_n 3, 1, 0, 0, 3, 0, 0), some (.iload_n 3, 1, 0, 0, 3, 0, 0), some (.aload_n 0, 1, 0, 0, 0, 0, 0),
  some (.getfield 126, 3, 0, 0, 7, 1, 0), none, none, some (.if_icmp .ge 51, 3, 0, 0, 60, 0, 0), none, none,
  some (.iload_n 3, 1, 0, 0, 3, 0, 0), some (.istore 4, 2, 0, 0, 4, 0, 0), none, some (.iload 4, 2, 0, 0, 4, 0, 0), none, some (.aload_n 0, 1, 0, 0, 0, 0, 0),
  some (.getfield 126, 3, 0, 0, 7, 1, 0), none, none, some (.if_icmp .ge 33, 3, 0, 0, 54, 0, 0), none, none,
  some (.iload_n 2, 1, 0, 0, 2, 0, 0), some (.aload_n 0, 1, 0, 0, 0, 0, 0), some (.getfield 7, 3, 0, 0, 7, 2, 0), none, none, some (.bipush 6, 2, 6, 0, 0, 0, 0),
  none, some (.iload_n 3, 1, 0, 0, 3, 0, 0), some (.imul, 1, 0, 0, 0, 0, 0), some (.iload 4, 2, 0, 0, 4, 0, 0), none, some (.iadd, 1, 0, 0, 0, 0, 0),
  some (.iaload, 1, 0, 0, 0, 0, 0), some (.aload_n 1, 1, 0, 0, 1, 0, 0), some (.iload_n 3, 1, 0, 0, 3, 0, 0), some (.iaload, 1, 0, 0, 0, 0, 0), some (.imul, 1, 0, 0, 0, 0, 0), some (.aload_n 1, 1, 0, 0, 1, 0, 0),
  some (.iload 4, 2, 0, 0, 4, 0, 0), none, some (.iaload, 1, 0, 0, 0, 0, 0), some (.imul, 1, 0, 0, 0, 0, 0), some (.iadd, 1, 0, 0, 0, 0, 0), some (.istore_n 2, 1, 0, 0, 2, 0, 0),
  some (.iinc 4 1, 3, 1, 0, 4, 0, 0), none, none, some (.goto (-36), 3, 0, 0, 15, 0, 0), none, none,
  some (.iinc 3 1, 3, 1, 0, 3, 0, 0), none, none, some (.goto (-53), 3, 0, 0, 4, 0, 0), none, none,
  some (.iload_n 2, 1, 0, 0, 2, 0, 0), some (.aload_n 0, 1, 0, 0, 0, 0, 0), some (.getfield 123, 3, 0, 0, 7, 0, 0), none, none, some (.irem, 1, 0, 0, 0, 0, 0),
  some (.ireturn, 1, 0, 0, 0, 0, 0)])
def zt_M_polarOf : zm_M := (⟨"QuadricFlatsModel", "polarOf", "([I[I)I"⟩, prog_9_method_20_code, 4, some .int, 2, false, 7, [
  some (.iconst 0, 1, 0, 0, 0, 0, 0), some (.istore_n 3, 1, 0, 0, 3, 0, 0), some (.iload_n 3, 1, 0, 0, 3, 0, 0), some (.bipush 6, 2, 6, 0, 0, 0, 0), none, some (.if_icmp .ge 27, 3, 0, 0, 32, 0, 0),
  none, none, some (.aload_n 0, 1, 0, 0, 0, 0, 0), some (.getfield 41, 3, 0, 0, 7, 23, 0), none, none,
  some (.iload_n 3, 1, 0, 0, 3, 0, 0), some (.aload_n 1, 1, 0, 0, 1, 0, 0), some (.iload_n 3, 1, 0, 0, 3, 0, 0), some (.iaload, 1, 0, 0, 0, 0, 0), some (.aload_n 2, 1, 0, 0, 2, 0, 0), some (.iload_n 3, 1, 0, 0, 3, 0, 0),
  some (.iaload, 1, 0, 0, 0, 0, 0), some (.iadd, 1, 0, 0, 0, 0, 0), some (.aload_n 0, 1, 0, 0, 0, 0, 0), some (.getfield 123, 3, 0, 0, 7, 0, 0), none, none,
  some (.irem, 1, 0, 0, 0, 0, 0), some (.iastore, 1, 0, 0, 0, 0, 0), some (.iinc 3 1, 3, 1, 0, 3, 0, 0), none, none, some (.goto (-27), 3, 0, 0, 2, 0, 0),
  none, none, some (.aload_n 0, 1, 0, 0, 0, 0, 0), some (.aload_n 0, 1, 0, 0, 0, 0, 0), some (.getfield 41, 3, 0, 0, 7, 23, 0), none,
  none, some (.invokevirtual 149, 3, 0, 0, 122, 1, 7), none, none, some (.aload_n 0, 1, 0, 0, 0, 0, 0), some (.aload_n 1, 1, 0, 0, 1, 0, 0),
  some (.invokevirtual 149, 3, 0, 0, 122, 1, 7), none, none, some (.isub, 1, 0, 0, 0, 0, 0), some (.aload_n 0, 1, 0, 0, 0, 0, 0), some (.aload_n 2, 1, 0, 0, 2, 0, 0),
  some (.invokevirtual 149, 3, 0, 0, 122, 1, 7), none, none, some (.isub, 1, 0, 0, 0, 0, 0), some (.aload_n 0, 1, 0, 0, 0, 0, 0), some (.getfield 123, 3, 0, 0, 7, 0, 0),
  none, none, some (.invokestatic 152, 3, 0, 0, 108, 2, 0), none, none, some (.ireturn, 1, 0, 0, 0, 0, 0)])
def zt_M_take : zm_M := (⟨"QuadricFlatsModel", "take", "(I[I)V"⟩, prog_9_method_21_code, 4, none, 2, false, 7, [
  some (.iconst 0, 1, 0, 0, 0, 0, 0), some (.istore_n 3, 1, 0, 0, 3, 0, 0), some (.iload_n 3, 1, 0, 0, 3, 0, 0), some (.bipush 6, 2, 6, 0, 0, 0, 0), none, some (.if_icmp .ge 23, 3, 0, 0, 28, 0, 0),
  none, none, some (.aload_n 2, 1, 0, 0, 2, 0, 0), some (.iload_n 3, 1, 0, 0, 3, 0, 0), some (.aload_n 0, 1, 0, 0, 0, 0, 0), some (.getfield 16, 3, 0, 0, 7, 7, 0),
  none, none, some (.bipush 6, 2, 6, 0, 0, 0, 0), none, some (.iload_n 1, 1, 0, 0, 1, 0, 0), some (.imul, 1, 0, 0, 0, 0, 0),
  some (.iload_n 3, 1, 0, 0, 3, 0, 0), some (.iadd, 1, 0, 0, 0, 0, 0), some (.iaload, 1, 0, 0, 0, 0, 0), some (.iastore, 1, 0, 0, 0, 0, 0), some (.iinc 3 1, 3, 1, 0, 3, 0, 0), none,
  none, some (.goto (-23), 3, 0, 0, 2, 0, 0), none, none, some (.return_, 1, 0, 0, 0, 0, 0)])
def zt_M_valueAt : zm_M := (⟨"QuadricFlatsModel", "valueAt", "(I)I"⟩, prog_9_method_22_code, 2, some .int, 1, false, 7, [
  some (.aload_n 0, 1, 0, 0, 0, 0, 0), some (.iload_n 1, 1, 0, 0, 1, 0, 0), some (.aload_n 0, 1, 0, 0, 0, 0, 0), some (.getfield 35, 3, 0, 0, 7, 21, 0), none, none,
  some (.invokevirtual 156, 3, 0, 0, 124, 2, 7), none, none, some (.aload_n 0, 1, 0, 0, 0, 0, 0), some (.aload_n 0, 1, 0, 0, 0, 0, 0), some (.getfield 35, 3, 0, 0, 7, 21, 0),
  none, none, some (.invokevirtual 149, 3, 0, 0, 122, 1, 7), none, none, some (.ireturn, 1, 0, 0, 0, 0, 0)])
def zt_M_polarAt : zm_M := (⟨"QuadricFlatsModel", "polarAt", "(II)I"⟩, prog_9_method_23_code, 3, some .int, 2, false, 7, [
  some (.aload_n 0, 1, 0, 0, 0, 0, 0), some (.iload_n 1, 1, 0, 0, 1, 0, 0), some (.aload_n 0, 1, 0, 0, 0, 0, 0), some (.getfield 35, 3, 0, 0, 7, 21, 0), none, none,
  some (.invokevirtual 156, 3, 0, 0, 124, 2, 7), none, none, some (.aload_n 0, 1, 0, 0, 0, 0, 0), some (.iload_n 2, 1, 0, 0, 2, 0, 0), some (.aload_n 0, 1, 0, 0, 0, 0, 0),
  some (.getfield 38, 3, 0, 0, 7, 22, 0), none, none, some (.invokevirtual 156, 3, 0, 0, 124, 2, 7), none, none,
  some (.aload_n 0, 1, 0, 0, 0, 0, 0), some (.aload_n 0, 1, 0, 0, 0, 0, 0), some (.getfield 35, 3, 0, 0, 7, 21, 0), none, none, some (.aload_n 0, 1, 0, 0, 0, 0, 0),
  some (.getfield 38, 3, 0, 0, 7, 22, 0), none, none, some (.invokevirtual 160, 3, 0, 0, 123, 2, 7), none, none,
  some (.ireturn, 1, 0, 0, 0, 0, 0)])
def zt_M_mix : zm_M := (⟨"QuadricFlatsModel", "mix", "(IIII)I"⟩, prog_9_method_24_code, 6, some .int, 4, false, 7, [
  some (.iconst 0, 1, 0, 0, 0, 0, 0), some (.istore 5, 2, 0, 0, 5, 0, 0), none, some (.iload 5, 2, 0, 0, 5, 0, 0), none, some (.bipush 6, 2, 6, 0, 0, 0, 0),
  none, some (.if_icmp .ge 51, 3, 0, 0, 58, 0, 0), none, none, some (.aload_n 0, 1, 0, 0, 0, 0, 0), some (.getfield 44, 3, 0, 0, 7, 24, 0),
  none, none, some (.iload 5, 2, 0, 0, 5, 0, 0), none, some (.aload_n 0, 1, 0, 0, 0, 0, 0), some (.getfield 16, 3, 0, 0, 7, 7, 0),
  none, none, some (.bipush 6, 2, 6, 0, 0, 0, 0), none, some (.iload_n 1, 1, 0, 0, 1, 0, 0), some (.imul, 1, 0, 0, 0, 0, 0),
  some (.iload 5, 2, 0, 0, 5, 0, 0), none, some (.iadd, 1, 0, 0, 0, 0, 0), some (.iaload, 1, 0, 0, 0, 0, 0), some (.iload_n 2, 1, 0, 0, 2, 0, 0), some (.imul, 1, 0, 0, 0, 0, 0),
  some (.aload_n 0, 1, 0, 0, 0, 0, 0), some (.getfield 16, 3, 0, 0, 7, 7, 0), none, none, some (.bipush 6, 2, 6, 0, 0, 0, 0), none,
  some (.iload_n 3, 1, 0, 0, 3, 0, 0), some (.imul, 1, 0, 0, 0, 0, 0), some (.iload 5, 2, 0, 0, 5, 0, 0), none, some (.iadd, 1, 0, 0, 0, 0, 0), some (.iaload, 1, 0, 0, 0, 0, 0),
  some (.iload 4, 2, 0, 0, 4, 0, 0), none, some (.imul, 1, 0, 0, 0, 0, 0), some (.iadd, 1, 0, 0, 0, 0, 0), some (.aload_n 0, 1, 0, 0, 0, 0, 0), some (.getfield 123, 3, 0, 0, 7, 0, 0),
  none, none, some (.irem, 1, 0, 0, 0, 0, 0), some (.iastore, 1, 0, 0, 0, 0, 0), some (.iinc 5 1, 3, 1, 0, 5, 0, 0), none,
  none, some (.goto (-52), 3, 0, 0, 3, 0, 0), none, none, some (.aload_n 0, 1, 0, 0, 0, 0, 0), some (.aload_n 0, 1, 0, 0, 0, 0, 0),
  some (.getfield 44, 3, 0, 0, 7, 24, 0), none, none, some (.invokevirtual 164, 3, 0, 0, 121, 1, 7), none, none,
  some (.ireturn, 1, 0, 0, 0, 0, 0)])
def zt_M_isJoined : zm_M := (⟨"QuadricFlatsModel", "isJoined", "(II)Z"⟩, prog_9_method_25_code, 5, some .boolean, 2, false, 7, [
  some (.iload_n 1, 1, 0, 0, 1, 0, 0), some (.iload_n 2, 1, 0, 0, 2, 0, 0), some (.if_icmp .eq 25, 3, 0, 0, 27, 0, 0), none, none, some (.aload_n 0, 1, 0, 0, 0, 0, 0),
  some (.getfield 22, 3, 0, 0, 7, 9, 0), none, none, some (.iload_n 1, 1, 0, 0, 1, 0, 0), some (.baload, 1, 0, 0, 0, 0, 0), some (.ifCond .eq 16, 3, 0, 0, 27, 0, 0),
  none, none, some (.aload_n 0, 1, 0, 0, 0, 0, 0), some (.getfield 22, 3, 0, 0, 7, 9, 0), none, none,
  some (.iload_n 2, 1, 0, 0, 2, 0, 0), some (.baload, 1, 0, 0, 0, 0, 0), some (.ifCond .eq 7, 3, 0, 0, 27, 0, 0), none, none, some (.iconst 1, 1, 1, 0, 0, 0, 0),
  some (.goto 4, 3, 0, 0, 28, 0, 0), none, none, some (.iconst 0, 1, 0, 0, 0, 0, 0), some (.istore_n 3, 1, 0, 0, 3, 0, 0), some (.iconst 1, 1, 1, 0, 0, 0, 0),
  some (.istore 4, 2, 0, 0, 4, 0, 0), none, some (.iload 4, 2, 0, 0, 4, 0, 0), none, some (.aload_n 0, 1, 0, 0, 0, 0, 0), some (.getfield 123, 3, 0, 0, 7, 0, 0),
  none, none, some (.if_icmp .ge 28, 3, 0, 0, 66, 0, 0), none, none, some (.iload_n 3, 1, 0, 0, 3, 0, 0),
  some (.ifCond .eq 24, 3, 0, 0, 66, 0, 0), none, none, some (.aload_n 0, 1, 0, 0, 0, 0, 0), some (.getfield 22, 3, 0, 0, 7, 9, 0), none,
  none, some (.aload_n 0, 1, 0, 0, 0, 0, 0), some (.iload_n 1, 1, 0, 0, 1, 0, 0), some (.iconst 1, 1, 1, 0, 0, 0, 0), some (.iload_n 2, 1, 0, 0, 2, 0, 0), some (.iload 4, 2, 0, 0, 4, 0, 0),
  none, some (.invokevirtual 167, 3, 0, 0, 127, 4, 7), none, none, some (.baload, 1, 0, 0, 0, 0, 0), some (.istore_n 3, 1, 0, 0, 3, 0, 0),
  some (.iinc 4 1, 3, 1, 0, 4, 0, 0), none, none, some (.goto (-31), 3, 0, 0, 32, 0, 0), none, none,
  some (.iload_n 3, 1, 0, 0, 3, 0, 0), some (.ireturn, 1, 0, 0, 0, 0, 0)])
def zt_M_isSingular : zm_M := (⟨"QuadricFlatsModel", "isSingular", "(I)Z"⟩, prog_9_method_26_code, 4, some .boolean, 1, false, 7, [
  some (.aload_n 0, 1, 0, 0, 0, 0, 0), some (.getfield 22, 3, 0, 0, 7, 9, 0), none, none, some (.iload_n 1, 1, 0, 0, 1, 0, 0), some (.baload, 1, 0, 0, 0, 0, 0),
  some (.istore_n 2, 1, 0, 0, 2, 0, 0), some (.iconst 0, 1, 0, 0, 0, 0, 0), some (.istore_n 3, 1, 0, 0, 3, 0, 0), some (.iload_n 3, 1, 0, 0, 3, 0, 0), some (.aload_n 0, 1, 0, 0, 0, 0, 0), some (.getfield 138, 3, 0, 0, 7, 6, 0),
  none, none, some (.if_icmp .ge 28, 3, 0, 0, 42, 0, 0), none, none, some (.iload_n 2, 1, 0, 0, 2, 0, 0),
  some (.ifCond .eq 24, 3, 0, 0, 42, 0, 0), none, none, some (.aload_n 0, 1, 0, 0, 0, 0, 0), some (.iload_n 1, 1, 0, 0, 1, 0, 0), some (.iload_n 3, 1, 0, 0, 3, 0, 0),
  some (.invokevirtual 171, 3, 0, 0, 126, 2, 7), none, none, some (.ifCond .ne 7, 3, 0, 0, 34, 0, 0), none, none,
  some (.iconst 1, 1, 1, 0, 0, 0, 0), some (.goto 4, 3, 0, 0, 35, 0, 0), none, none, some (.iconst 0, 1, 0, 0, 0, 0, 0), some (.istore_n 2, 1, 0, 0, 2, 0, 0),
  some (.iinc 3 1, 3, 1, 0, 3, 0, 0), none, none, some (.goto (-30), 3, 0, 0, 9, 0, 0), none, none,
  some (.iload_n 2, 1, 0, 0, 2, 0, 0), some (.ireturn, 1, 0, 0, 0, 0, 0)])
def zt_M_addTo : zm_M := (⟨"QuadricFlatsModel", "addTo", "(I)V"⟩, prog_9_method_27_code, 3, none, 1, false, 7, [
  some (.aload_n 0, 1, 0, 0, 0, 0, 0), some (.getfield 174, 3, 0, 0, 7, 25, 0), none, none, some (.istore_n 2, 1, 0, 0, 2, 0, 0), some (.iload_n 2, 1, 0, 0, 2, 0, 0),
  some (.ifCond .le 35, 3, 0, 0, 41, 0, 0), none, none, some (.aload_n 0, 1, 0, 0, 0, 0, 0), some (.getfield 47, 3, 0, 0, 7, 26, 0), none,
  none, some (.iload_n 2, 1, 0, 0, 2, 0, 0), some (.iconst 1, 1, 1, 0, 0, 0, 0), some (.isub, 1, 0, 0, 0, 0, 0), some (.iaload, 1, 0, 0, 0, 0, 0), some (.iload_n 1, 1, 0, 0, 1, 0, 0),
  some (.if_icmp .le 23, 3, 0, 0, 41, 0, 0), none, none, some (.aload_n 0, 1, 0, 0, 0, 0, 0), some (.getfield 47, 3, 0, 0, 7, 26, 0), none,
  none, some (.iload_n 2, 1, 0, 0, 2, 0, 0), some (.aload_n 0, 1, 0, 0, 0, 0, 0), some (.getfield 47, 3, 0, 0, 7, 26, 0), none, none,
  some (.iload_n 2, 1, 0, 0, 2, 0, 0), some (.iconst 1, 1, 1, 0, 0, 0, 0), some (.isub, 1, 0, 0, 0, 0, 0), some (.iaload, 1, 0, 0, 0, 0, 0), some (.iastore, 1, 0, 0, 0, 0, 0), some (.iinc 2 (-1), 3, (-1), 0, 2, 0, 0),
  none, none, some (.goto (-33), 3, 0, 0, 5, 0, 0), none, none, some (.aload_n 0, 1, 0, 0, 0, 0, 0),
  some (.getfield 47, 3, 0, 0, 7, 26, 0), none, none, some (.iload_n 2, 1, 0, 0, 2, 0, 0), some (.iload_n 1, 1, 0, 0, 1, 0, 0), some (.iastore, 1, 0, 0, 0, 0, 0),
  some (.aload_n 0, 1, 0, 0, 0, 0, 0), some (.dup, 1, 0, 0, 0, 0, 0), some (.getfield 174, 3, 0, 0, 7, 25, 0), none, none, some (.iconst 1, 1, 1, 0, 0, 0, 0),
  some (.iadd, 1, 0, 0, 0, 0, 0), some (.putfield 174, 3, 0, 0, 7, 25, 0), none, none, some (.return_, 1, 0, 0, 0, 0, 0)])
def zt_M_isIn : zm_M := (⟨"QuadricFlatsModel", "isIn", "(I)Z"⟩, prog_9_method_28_code, 4, some .boolean, 1, false, 7, [
  some (.iconst 0, 1, 0, 0, 0, 0, 0), some (.istore_n 2, 1, 0, 0, 2, 0, 0), some (.iconst 0, 1, 0, 0, 0, 0, 0), some (.istore_n 3, 1, 0, 0, 3, 0, 0), some (.iload_n 3, 1, 0, 0, 3, 0, 0), some (.aload_n 0, 1, 0, 0, 0, 0, 0),
  some (.getfield 174, 3, 0, 0, 7, 25, 0), none, none, some (.if_icmp .ge 29, 3, 0, 0, 38, 0, 0), none, none,
  some (.iload_n 2, 1, 0, 0, 2, 0, 0), some (.ifCond .ne 13, 3, 0, 0, 26, 0, 0), none, none, some (.aload_n 0, 1, 0, 0, 0, 0, 0), some (.getfield 47, 3, 0, 0, 7, 26, 0),
  none, none, some (.iload_n 3, 1, 0, 0, 3, 0, 0), some (.iaload, 1, 0, 0, 0, 0, 0), some (.iload_n 1, 1, 0, 0, 1, 0, 0), some (.if_icmp .ne 7, 3, 0, 0, 30, 0, 0),
  none, none, some (.iconst 1, 1, 1, 0, 0, 0, 0), some (.goto 4, 3, 0, 0, 31, 0, 0), none, none,
  some (.iconst 0, 1, 0, 0, 0, 0, 0), some (.istore_n 2, 1, 0, 0, 2, 0, 0), some (.iinc 3 1, 3, 1, 0, 3, 0, 0), none, none, some (.goto (-31), 3, 0, 0, 4, 0, 0),
  none, none, some (.iload_n 2, 1, 0, 0, 2, 0, 0), some (.ireturn, 1, 0, 0, 0, 0, 0)])
def zt_M_layLine : zm_M := (⟨"QuadricFlatsModel", "layLine", "(II)V"⟩, prog_9_method_29_code, 4, none, 2, false, 7, [
  some (.aload_n 0, 1, 0, 0, 0, 0, 0), some (.iconst 0, 1, 0, 0, 0, 0, 0), some (.putfield 174, 3, 0, 0, 7, 25, 0), none, none, some (.aload_n 0, 1, 0, 0, 0, 0, 0),
  some (.iload_n 1, 1, 0, 0, 1, 0, 0), some (.invokevirtual 177, 3, 0, 0, 130, 1, 7), none, none, some (.iconst 0, 1, 0, 0, 0, 0, 0), some (.istore_n 3, 1, 0, 0, 3, 0, 0),
  some (.iload_n 3, 1, 0, 0, 3, 0, 0), some (.aload_n 0, 1, 0, 0, 0, 0, 0), some (.getfield 123, 3, 0, 0, 7, 0, 0), none, none, some (.if_icmp .ge 21, 3, 0, 0, 38, 0, 0),
  none, none, some (.aload_n 0, 1, 0, 0, 0, 0, 0), some (.aload_n 0, 1, 0, 0, 0, 0, 0), some (.iload_n 1, 1, 0, 0, 1, 0, 0), some (.iload_n 3, 1, 0, 0, 3, 0, 0),
  some (.iload_n 2, 1, 0, 0, 2, 0, 0), some (.iconst 1, 1, 1, 0, 0, 0, 0), some (.invokevirtual 167, 3, 0, 0, 127, 4, 7), none, none, some (.invokevirtual 177, 3, 0, 0, 130, 1, 7),
  none, none, some (.iinc 3 1, 3, 1, 0, 3, 0, 0), none, none, some (.goto (-23), 3, 0, 0, 12, 0, 0),
  none, none, some (.return_, 1, 0, 0, 0, 0, 0)])
def zt_M_widen : zm_M := (⟨"QuadricFlatsModel", "widen", "(I)V"⟩, prog_9_method_30_code, 5, none, 1, false, 7, [
  some (.aload_n 0, 1, 0, 0, 0, 0, 0), some (.getfield 174, 3, 0, 0, 7, 25, 0), none, none, some (.istore_n 2, 1, 0, 0, 2, 0, 0), some (.iconst 0, 1, 0, 0, 0, 0, 0),
  some (.istore_n 3, 1, 0, 0, 3, 0, 0), some (.iload_n 3, 1, 0, 0, 3, 0, 0), some (.iload_n 2, 1, 0, 0, 2, 0, 0), some (.if_icmp .ge 21, 3, 0, 0, 30, 0, 0), none, none,
  some (.aload_n 0, 1, 0, 0, 0, 0, 0), some (.getfield 50, 3, 0, 0, 7, 27, 0), none, none, some (.iload_n 3, 1, 0, 0, 3, 0, 0), some (.aload_n 0, 1, 0, 0, 0, 0, 0),
  some (.getfield 47, 3, 0, 0, 7, 26, 0), none, none, some (.iload_n 3, 1, 0, 0, 3, 0, 0), some (.iaload, 1, 0, 0, 0, 0, 0), some (.iastore, 1, 0, 0, 0, 0, 0),
  some (.iinc 3 1, 3, 1, 0, 3, 0, 0), none, none, some (.goto (-20), 3, 0, 0, 7, 0, 0), none, none,
  some (.aload_n 0, 1, 0, 0, 0, 0, 0), some (.iload_n 1, 1, 0, 0, 1, 0, 0), some (.invokevirtual 177, 3, 0, 0, 130, 1, 7), none, none, some (.iconst 0, 1, 0, 0, 0, 0, 0),
  some (.istore_n 3, 1, 0, 0, 3, 0, 0), some (.iload_n 3, 1, 0, 0, 3, 0, 0), some (.iload_n 2, 1, 0, 0, 2, 0, 0), some (.if_icmp .ge 45, 3, 0, 0, 84, 0, 0), none, none,
  some (.iconst 1, 1, 1, 0, 0, 0, 0), some (.istore 4, 2, 0, 0, 4, 0, 0), none, some (.iload 4, 2, 0, 0, 4, 0, 0), none, some (.aload_n 0, 1, 0, 0, 0, 0, 0),
  some (.getfield 123, 3, 0, 0, 7, 0, 0), none, none, some (.if_icmp .ge 27, 3, 0, 0, 78, 0, 0), none, none,
  some (.aload_n 0, 1, 0, 0, 0, 0, 0), some (.aload_n 0, 1, 0, 0, 0, 0, 0), some (.aload_n 0, 1, 0, 0, 0, 0, 0), some (.getfield 50, 3, 0, 0, 7, 27, 0), none, none,
  some (.iload_n 3, 1, 0, 0, 3, 0, 0), some (.iaload, 1, 0, 0, 0, 0, 0), some (.iload 4, 2, 0, 0, 4, 0, 0), none, some (.iload_n 1, 1, 0, 0, 1, 0, 0), some (.iconst 1, 1, 1, 0, 0, 0, 0),
  some (.invokevirtual 167, 3, 0, 0, 127, 4, 7), none, none, some (.invokevirtual 177, 3, 0, 0, 130, 1, 7), none, none,
  some (.iinc 4 1, 3, 1, 0, 4, 0, 0), none, none, some (.goto (-30), 3, 0, 0, 45, 0, 0), none, none,
  some (.iinc 3 1, 3, 1, 0, 3, 0, 0), none, none, some (.goto (-44), 3, 0, 0, 37, 0, 0), none, none,
  some (.return_, 1, 0, 0, 0, 0, 0)])
def zt_M_areOn : zm_M := (⟨"QuadricFlatsModel", "areOn", "()Z"⟩, prog_9_method_31_code, 3, some .boolean, 0, false, 7, [
  some (.iconst 1, 1, 1, 0, 0, 0, 0), some (.istore_n 1, 1, 0, 0, 1, 0, 0), some (.iconst 0, 1, 0, 0, 0, 0, 0), some (.istore_n 2, 1, 0, 0, 2, 0, 0), some (.iload_n 2, 1, 0, 0, 2, 0, 0), some (.aload_n 0, 1, 0, 0, 0, 0, 0),
  some (.getfield 174, 3, 0, 0, 7, 25, 0), none, none, some (.if_icmp .ge 33, 3, 0, 0, 42, 0, 0), none, none,
  some (.iload_n 1, 1, 0, 0, 1, 0, 0), some (.ifCond .eq 21, 3, 0, 0, 34, 0, 0), none, none, some (.aload_n 0, 1, 0, 0, 0, 0, 0), some (.getfield 22, 3, 0, 0, 7, 9, 0),
  none, none, some (.aload_n 0, 1, 0, 0, 0, 0, 0), some (.getfield 47, 3, 0, 0, 7, 26, 0), none, none,
  some (.iload_n 2, 1, 0, 0, 2, 0, 0), some (.iaload, 1, 0, 0, 0, 0, 0), some (.baload, 1, 0, 0, 0, 0, 0), some (.ifCond .eq 7, 3, 0, 0, 34, 0, 0), none, none,
  some (.iconst 1, 1, 1, 0, 0, 0, 0), some (.goto 4, 3, 0, 0, 35, 0, 0), none, none, some (.iconst 0, 1, 0, 0, 0, 0, 0), some (.istore_n 1, 1, 0, 0, 1, 0, 0),
  some (.iinc 2 1, 3, 1, 0, 2, 0, 0), none, none, some (.goto (-35), 3, 0, 0, 4, 0, 0), none, none,
  some (.iload_n 1, 1, 0, 0, 1, 0, 0), some (.ireturn, 1, 0, 0, 0, 0, 0)])
def zt_M_layLines : zm_M := (⟨"QuadricFlatsModel", "layLines", "()V"⟩, prog_9_method_32_code, 5, none, 0, false, 7, [
  some (.aload_n 0, 1, 0, 0, 0, 0, 0), some (.iconst 0, 1, 0, 0, 0, 0, 0), some (.putfield 180, 3, 0, 0, 7, 12, 0), none, none, some (.iconst 0, 1, 0, 0, 0, 0, 0),
  some (.istore_n 1, 1, 0, 0, 1, 0, 0), some (.iload_n 1, 1, 0, 0, 1, 0, 0), some (.aload_n 0, 1, 0, 0, 0, 0, 0), some (.getfield 138, 3, 0, 0, 7, 6, 0), none, none,
  some (.aload_n 0, 1, 0, 0, 0, 0, 0), some (.getfield 138, 3, 0, 0, 7, 6, 0), none, none, some (.imul, 1, 0, 0, 0, 0, 0), some (.if_icmp .ge 129, 3, 0, 0, 146, 0, 0),
  none, none, some (.iload_n 1, 1, 0, 0, 1, 0, 0), some (.aload_n 0, 1, 0, 0, 0, 0, 0), some (.getfield 138, 3, 0, 0, 7, 6, 0), none,
  none, some (.idiv, 1, 0, 0, 0, 0, 0), some (.istore_n 2, 1, 0, 0, 2, 0, 0), some (.iload_n 1, 1, 0, 0, 1, 0, 0), some (.aload_n 0, 1, 0, 0, 0, 0, 0), some (.getfield 138, 3, 0, 0, 7, 6, 0),
  none, none, some (.irem, 1, 0, 0, 0, 0, 0), some (.istore_n 3, 1, 0, 0, 3, 0, 0), some (.iload_n 2, 1, 0, 0, 2, 0, 0), some (.iload_n 3, 1, 0, 0, 3, 0, 0),
  some (.if_icmp .ge 104, 3, 0, 0, 140, 0, 0), none, none, some (.aload_n 0, 1, 0, 0, 0, 0, 0), some (.getfield 22, 3, 0, 0, 7, 9, 0), none,
  none, some (.iload_n 2, 1, 0, 0, 2, 0, 0), some (.baload, 1, 0, 0, 0, 0, 0), some (.ifCond .eq 95, 3, 0, 0, 140, 0, 0), none, none,
  some (.aload_n 0, 1, 0, 0, 0, 0, 0), some (.getfield 22, 3, 0, 0, 7, 9, 0), none, none, some (.iload_n 3, 1, 0, 0, 3, 0, 0), some (.baload, 1, 0, 0, 0, 0, 0),
  some (.ifCond .eq 86, 3, 0, 0, 140, 0, 0), none, none, some (.aload_n 0, 1, 0, 0, 0, 0, 0), some (.iload_n 2, 1, 0, 0, 2, 0, 0), some (.iload_n 3, 1, 0, 0, 3, 0, 0),
  some (.invokevirtual 183, 3, 0, 0, 132, 2, 7), none, none, some (.aload_n 0, 1, 0, 0, 0, 0, 0), some (.getfield 47, 3, 0, 0, 7, 26, 0), none,
  none, some (.iconst 0, 1, 0, 0, 0, 0, 0), some (.iaload, 1, 0, 0, 0, 0, 0), some (.iload_n 2, 1, 0, 0, 2, 0, 0), some (.if_icmp .ne 70, 3, 0, 0, 140, 0, 0), none,
  none, some (.aload_n 0, 1, 0, 0, 0, 0, 0), some (.getfield 47, 3, 0, 0, 7, 26, 0), none, none, some (.iconst 1, 1, 1, 0, 0, 0, 0),
  some (.iaload, 1, 0, 0, 0, 0, 0), some (.iload_n 3, 1, 0, 0, 3, 0, 0), some (.if_icmp .ne 60, 3, 0, 0, 140, 0, 0), none, none, some (.aload_n 0, 1, 0, 0, 0, 0, 0),
  some (.invokevirtual 187, 3, 0, 0, 134, 0, 7), none, none, some (.ifCond .eq 53, 3, 0, 0, 140, 0, 0), none, none,
  some (.iconst 0, 1, 0, 0, 0, 0, 0), some (.istore 4, 2, 0, 0, 4, 0, 0), none, some (.iload 4, 2, 0, 0, 4, 0, 0), none, some (.aload_n 0, 1, 0, 0, 0, 0, 0),
  some (.getfield 174, 3, 0, 0, 7, 25, 0), none, none, some (.if_icmp .ge 31, 3, 0, 0, 130, 0, 0), none, none,
  some (.aload_n 0, 1, 0, 0, 0, 0, 0), some (.getfield 26, 3, 0, 0, 7, 13, 0), none, none, some (.bipush 6, 2, 6, 0, 0, 0, 0), none,
  some (.aload_n 0, 1, 0, 0, 0, 0, 0), some (.getfield 180, 3, 0, 0, 7, 12, 0), none, none, some (.imul, 1, 0, 0, 0, 0, 0), some (.iload 4, 2, 0, 0, 4, 0, 0),
  none, some (.iadd, 1, 0, 0, 0, 0, 0), some (.aload_n 0, 1, 0, 0, 0, 0, 0), some (.getfield 47, 3, 0, 0, 7, 26, 0), none, none,
  some (.iload 4, 2, 0, 0, 4, 0, 0), none, some (.iaload, 1, 0, 0, 0, 0, 0), some (.iastore, 1, 0, 0, 0, 0, 0), some (.iinc 4 1, 3, 1, 0, 4, 0, 0), none,
  none, some (.goto (-34), 3, 0, 0, 93, 0, 0), none, none, some (.aload_n 0, 1, 0, 0, 0, 0, 0), some (.dup, 1, 0, 0, 0, 0, 0),
  some (.getfield 180, 3, 0, 0, 7, 12, 0), none, none, some (.iconst 1, 1, 1, 0, 0, 0, 0), some (.iadd, 1, 0, 0, 0, 0, 0), some (.putfield 180, 3, 0, 0, 7, 12, 0),
  none, none, some (.iinc 1 1, 3, 1, 0, 1, 0, 0), none, none, some (.goto (-136), 3, 0, 0, 7, 0, 0),
  none, none, some (.return_, 1, 0, 0, 0, 0, 0)])
def zt_M_layPlane : zm_M := (⟨"QuadricFlatsModel", "layPlane", "(II)V"⟩, prog_9_method_33_code, 5, none, 2, false, 7, [
  some (.aload_n 0, 1, 0, 0, 0, 0, 0), some (.aload_n 0, 1, 0, 0, 0, 0, 0), some (.getfield 26, 3, 0, 0, 7, 13, 0), none, none, some (.bipush 6, 2, 6, 0, 0, 0, 0),
  none, some (.iload_n 1, 1, 0, 0, 1, 0, 0), some (.imul, 1, 0, 0, 0, 0, 0), some (.iaload, 1, 0, 0, 0, 0, 0), some (.aload_n 0, 1, 0, 0, 0, 0, 0), some (.getfield 26, 3, 0, 0, 7, 13, 0),
  none, none, some (.bipush 6, 2, 6, 0, 0, 0, 0), none, some (.iload_n 1, 1, 0, 0, 1, 0, 0), some (.imul, 1, 0, 0, 0, 0, 0),
  some (.iconst 1, 1, 1, 0, 0, 0, 0), some (.iadd, 1, 0, 0, 0, 0, 0), some (.iaload, 1, 0, 0, 0, 0, 0), some (.invokevirtual 183, 3, 0, 0, 132, 2, 7), none, none,
  some (.aload_n 0, 1, 0, 0, 0, 0, 0), some (.iload_n 2, 1, 0, 0, 2, 0, 0), some (.invokevirtual 191, 3, 0, 0, 131, 1, 7), none, none, some (.ifCond .eq 4, 3, 0, 0, 33, 0, 0),
  none, none, some (.return_, 1, 0, 0, 0, 0, 0), some (.aload_n 0, 1, 0, 0, 0, 0, 0), some (.iload_n 2, 1, 0, 0, 2, 0, 0), some (.invokevirtual 194, 3, 0, 0, 133, 1, 7),
  none, none, some (.aload_n 0, 1, 0, 0, 0, 0, 0), some (.getfield 47, 3, 0, 0, 7, 26, 0), none, none,
  some (.iconst 0, 1, 0, 0, 0, 0, 0), some (.iaload, 1, 0, 0, 0, 0, 0), some (.aload_n 0, 1, 0, 0, 0, 0, 0), some (.getfield 26, 3, 0, 0, 7, 13, 0), none, none,
  some (.bipush 6, 2, 6, 0, 0, 0, 0), none, some (.iload_n 1, 1, 0, 0, 1, 0, 0), some (.imul, 1, 0, 0, 0, 0, 0), some (.iaload, 1, 0, 0, 0, 0, 0), some (.if_icmp .ne 27, 3, 0, 0, 80, 0, 0),
  none, none, some (.aload_n 0, 1, 0, 0, 0, 0, 0), some (.getfield 47, 3, 0, 0, 7, 26, 0), none, none,
  some (.iconst 1, 1, 1, 0, 0, 0, 0), some (.iaload, 1, 0, 0, 0, 0, 0), some (.aload_n 0, 1, 0, 0, 0, 0, 0), some (.getfield 26, 3, 0, 0, 7, 13, 0), none, none,
  some (.bipush 6, 2, 6, 0, 0, 0, 0), none, some (.iload_n 1, 1, 0, 0, 1, 0, 0), some (.imul, 1, 0, 0, 0, 0, 0), some (.iconst 1, 1, 1, 0, 0, 0, 0), some (.iadd, 1, 0, 0, 0, 0, 0),
  some (.iaload, 1, 0, 0, 0, 0, 0), some (.if_icmp .ne 7, 3, 0, 0, 80, 0, 0), none, none, some (.iconst 1, 1, 1, 0, 0, 0, 0), some (.goto 4, 3, 0, 0, 81, 0, 0),
  none, none, some (.iconst 0, 1, 0, 0, 0, 0, 0), some (.istore_n 3, 1, 0, 0, 3, 0, 0), some (.iconst 0, 1, 0, 0, 0, 0, 0), some (.istore 4, 2, 0, 0, 4, 0, 0),
  none, some (.iload 4, 2, 0, 0, 4, 0, 0), none, some (.aload_n 0, 1, 0, 0, 0, 0, 0), some (.getfield 174, 3, 0, 0, 7, 25, 0), none,
  none, some (.if_icmp .ge 45, 3, 0, 0, 136, 0, 0), none, none, some (.iload_n 3, 1, 0, 0, 3, 0, 0), some (.ifCond .eq 33, 3, 0, 0, 128, 0, 0),
  none, none, some (.aload_n 0, 1, 0, 0, 0, 0, 0), some (.getfield 47, 3, 0, 0, 7, 26, 0), none, none,
  some (.iload 4, 2, 0, 0, 4, 0, 0), none, some (.iaload, 1, 0, 0, 0, 0, 0), some (.iload_n 2, 1, 0, 0, 2, 0, 0), some (.if_icmp .ge 18, 3, 0, 0, 124, 0, 0), none,
  none, some (.aload_n 0, 1, 0, 0, 0, 0, 0), some (.iload_n 1, 1, 0, 0, 1, 0, 0), some (.aload_n 0, 1, 0, 0, 0, 0, 0), some (.getfield 47, 3, 0, 0, 7, 26, 0), none,
  none, some (.iload 4, 2, 0, 0, 4, 0, 0), none, some (.iaload, 1, 0, 0, 0, 0, 0), some (.invokevirtual 197, 3, 0, 0, 137, 2, 7), none,
  none, some (.ifCond .eq 7, 3, 0, 0, 128, 0, 0), none, none, some (.iconst 1, 1, 1, 0, 0, 0, 0), some (.goto 4, 3, 0, 0, 129, 0, 0),
  none, none, some (.iconst 0, 1, 0, 0, 0, 0, 0), some (.istore_n 3, 1, 0, 0, 3, 0, 0), some (.iinc 4 1, 3, 1, 0, 4, 0, 0), none,
  none, some (.goto (-48), 3, 0, 0, 85, 0, 0), none, none, some (.iload_n 3, 1, 0, 0, 3, 0, 0), some (.ifCond .eq 60, 3, 0, 0, 197, 0, 0),
  none, none, some (.aload_n 0, 1, 0, 0, 0, 0, 0), some (.invokevirtual 187, 3, 0, 0, 134, 0, 7), none, none,
  some (.ifCond .eq 53, 3, 0, 0, 197, 0, 0), none, none, some (.iconst 0, 1, 0, 0, 0, 0, 0), some (.istore 4, 2, 0, 0, 4, 0, 0), none,
  some (.iload 4, 2, 0, 0, 4, 0, 0), none, some (.aload_n 0, 1, 0, 0, 0, 0, 0), some (.getfield 174, 3, 0, 0, 7, 25, 0), none, none,
  some (.if_icmp .ge 31, 3, 0, 0, 187, 0, 0), none, none, some (.aload_n 0, 1, 0, 0, 0, 0, 0), some (.getfield 29, 3, 0, 0, 7, 15, 0), none,
  none, some (.bipush 7, 2, 7, 0, 0, 0, 0), none, some (.aload_n 0, 1, 0, 0, 0, 0, 0), some (.getfield 200, 3, 0, 0, 7, 14, 0), none,
  none, some (.imul, 1, 0, 0, 0, 0, 0), some (.iload 4, 2, 0, 0, 4, 0, 0), none, some (.iadd, 1, 0, 0, 0, 0, 0), some (.aload_n 0, 1, 0, 0, 0, 0, 0),
  some (.getfield 47, 3, 0, 0, 7, 26, 0), none, none, some (.iload 4, 2, 0, 0, 4, 0, 0), none, some (.iaload, 1, 0, 0, 0, 0, 0),
  some (.iastore, 1, 0, 0, 0, 0, 0), some (.iinc 4 1, 3, 1, 0, 4, 0, 0), none, none, some (.goto (-34), 3, 0, 0, 150, 0, 0), none,
  none, some (.aload_n 0, 1, 0, 0, 0, 0, 0), some (.dup, 1, 0, 0, 0, 0, 0), some (.getfield 200, 3, 0, 0, 7, 14, 0), none, none,
  some (.iconst 1, 1, 1, 0, 0, 0, 0), some (.iadd, 1, 0, 0, 0, 0, 0), some (.putfield 200, 3, 0, 0, 7, 14, 0), none, none, some (.return_, 1, 0, 0, 0, 0, 0)])
def zt_M_isOfLine : zm_M := (⟨"QuadricFlatsModel", "isOfLine", "(II)Z"⟩, prog_9_method_34_code, 5, some .boolean, 2, false, 7, [
  some (.iconst 0, 1, 0, 0, 0, 0, 0), some (.istore_n 3, 1, 0, 0, 3, 0, 0), some (.iconst 0, 1, 0, 0, 0, 0, 0), some (.istore 4, 2, 0, 0, 4, 0, 0), none, some (.iload 4, 2, 0, 0, 4, 0, 0),
  none, some (.aload_n 0, 1, 0, 0, 0, 0, 0), some (.getfield 123, 3, 0, 0, 7, 0, 0), none, none, some (.if_icmp .gt 35, 3, 0, 0, 46, 0, 0),
  none, none, some (.iload_n 3, 1, 0, 0, 3, 0, 0), some (.ifCond .ne 19, 3, 0, 0, 34, 0, 0), none, none,
  some (.aload_n 0, 1, 0, 0, 0, 0, 0), some (.getfield 26, 3, 0, 0, 7, 13, 0), none, none, some (.bipush 6, 2, 6, 0, 0, 0, 0), none,
  some (.iload_n 1, 1, 0, 0, 1, 0, 0), some (.imul, 1, 0, 0, 0, 0, 0), some (.iload 4, 2, 0, 0, 4, 0, 0), none, some (.iadd, 1, 0, 0, 0, 0, 0), some (.iaload, 1, 0, 0, 0, 0, 0),
  some (.iload_n 2, 1, 0, 0, 2, 0, 0), some (.if_icmp .ne 7, 3, 0, 0, 38, 0, 0), none, none, some (.iconst 1, 1, 1, 0, 0, 0, 0), some (.goto 4, 3, 0, 0, 39, 0, 0),
  none, none, some (.iconst 0, 1, 0, 0, 0, 0, 0), some (.istore_n 3, 1, 0, 0, 3, 0, 0), some (.iinc 4 1, 3, 1, 0, 4, 0, 0), none,
  none, some (.goto (-38), 3, 0, 0, 5, 0, 0), none, none, some (.iload_n 3, 1, 0, 0, 3, 0, 0), some (.ireturn, 1, 0, 0, 0, 0, 0)])
def zt_M_layPlanes : zm_M := (⟨"QuadricFlatsModel", "layPlanes", "()V"⟩, prog_9_method_35_code, 3, none, 0, false, 7, [
  some (.aload_n 0, 1, 0, 0, 0, 0, 0), some (.iconst 0, 1, 0, 0, 0, 0, 0), some (.putfield 200, 3, 0, 0, 7, 14, 0), none, none, some (.iconst 0, 1, 0, 0, 0, 0, 0),
  some (.istore_n 1, 1, 0, 0, 1, 0, 0), some (.iload_n 1, 1, 0, 0, 1, 0, 0), some (.aload_n 0, 1, 0, 0, 0, 0, 0), some (.getfield 180, 3, 0, 0, 7, 12, 0), none, none,
  some (.if_icmp .ge 40, 3, 0, 0, 52, 0, 0), none, none, some (.iconst 0, 1, 0, 0, 0, 0, 0), some (.istore_n 2, 1, 0, 0, 2, 0, 0), some (.iload_n 2, 1, 0, 0, 2, 0, 0),
  some (.aload_n 0, 1, 0, 0, 0, 0, 0), some (.getfield 138, 3, 0, 0, 7, 6, 0), none, none, some (.if_icmp .ge 24, 3, 0, 0, 46, 0, 0), none,
  none, some (.aload_n 0, 1, 0, 0, 0, 0, 0), some (.getfield 22, 3, 0, 0, 7, 9, 0), none, none, some (.iload_n 2, 1, 0, 0, 2, 0, 0),
  some (.baload, 1, 0, 0, 0, 0, 0), some (.ifCond .eq 9, 3, 0, 0, 40, 0, 0), none, none, some (.aload_n 0, 1, 0, 0, 0, 0, 0), some (.iload_n 1, 1, 0, 0, 1, 0, 0),
  some (.iload_n 2, 1, 0, 0, 2, 0, 0), some (.invokevirtual 203, 3, 0, 0, 136, 2, 7), none, none, some (.iinc 2 1, 3, 1, 0, 2, 0, 0), none,
  none, some (.goto (-26), 3, 0, 0, 17, 0, 0), none, none, some (.iinc 1 1, 3, 1, 0, 1, 0, 0), none,
  none, some (.goto (-42), 3, 0, 0, 7, 0, 0), none, none, some (.return_, 1, 0, 0, 0, 0, 0)])
def zt_M_layForm : zm_M := (⟨"QuadricFlatsModel", "layForm", "()V"⟩, prog_9_method_36_code, 2, none, 0, false, 7, [
  some (.aload_n 0, 1, 0, 0, 0, 0, 0), some (.iconst 0, 1, 0, 0, 0, 0, 0), some (.putfield 206, 3, 0, 0, 7, 10, 0), none, none, some (.aload_n 0, 1, 0, 0, 0, 0, 0),
  some (.iconst 0, 1, 0, 0, 0, 0, 0), some (.putfield 209, 3, 0, 0, 7, 11, 0), none, none, some (.aload_n 0, 1, 0, 0, 0, 0, 0), some (.iconst 0, 1, 0, 0, 0, 0, 0),
  some (.putfield 180, 3, 0, 0, 7, 12, 0), none, none, some (.aload_n 0, 1, 0, 0, 0, 0, 0), some (.iconst 0, 1, 0, 0, 0, 0, 0), some (.putfield 200, 3, 0, 0, 7, 14, 0),
  none, none, some (.iconst 0, 1, 0, 0, 0, 0, 0), some (.istore_n 1, 1, 0, 0, 1, 0, 0), some (.iload_n 1, 1, 0, 0, 1, 0, 0), some (.aload_n 0, 1, 0, 0, 0, 0, 0),
  some (.getfield 138, 3, 0, 0, 7, 6, 0), none, none, some (.if_icmp .ge 51, 3, 0, 0, 78, 0, 0), none, none,
  some (.aload_n 0, 1, 0, 0, 0, 0, 0), some (.getfield 22, 3, 0, 0, 7, 9, 0), none, none, some (.iload_n 1, 1, 0, 0, 1, 0, 0), some (.aload_n 0, 1, 0, 0, 0, 0, 0),
  some (.iload_n 1, 1, 0, 0, 1, 0, 0), some (.invokevirtual 212, 3, 0, 0, 125, 1, 7), none, none, some (.ifCond .ne 7, 3, 0, 0, 47, 0, 0), none,
  none, some (.iconst 1, 1, 1, 0, 0, 0, 0), some (.goto 4, 3, 0, 0, 48, 0, 0), none, none, some (.iconst 0, 1, 0, 0, 0, 0, 0),
  some (.bastore, 1, 0, 0, 0, 0, 0), some (.aload_n 0, 1, 0, 0, 0, 0, 0), some (.dup, 1, 0, 0, 0, 0, 0), some (.getfield 206, 3, 0, 0, 7, 10, 0), none, none,
  some (.aload_n 0, 1, 0, 0, 0, 0, 0), some (.getfield 22, 3, 0, 0, 7, 9, 0), none, none, some (.iload_n 1, 1, 0, 0, 1, 0, 0), some (.baload, 1, 0, 0, 0, 0, 0),
  some (.ifCond .eq 7, 3, 0, 0, 67, 0, 0), none, none, some (.iconst 1, 1, 1, 0, 0, 0, 0), some (.goto 4, 3, 0, 0, 68, 0, 0), none,
  none, some (.iconst 0, 1, 0, 0, 0, 0, 0), some (.iadd, 1, 0, 0, 0, 0, 0), some (.putfield 206, 3, 0, 0, 7, 10, 0), none, none,
  some (.iinc 1 1, 3, 1, 0, 1, 0, 0), none, none, some (.goto (-53), 3, 0, 0, 22, 0, 0), none, none,
  some (.iconst 0, 1, 0, 0, 0, 0, 0), some (.istore_n 1, 1, 0, 0, 1, 0, 0), some (.iload_n 1, 1, 0, 0, 1, 0, 0), some (.aload_n 0, 1, 0, 0, 0, 0, 0), some (.getfield 138, 3, 0, 0, 7, 6, 0), none,
  none, some (.if_icmp .ge 31, 3, 0, 0, 116, 0, 0), none, none, some (.aload_n 0, 1, 0, 0, 0, 0, 0), some (.dup, 1, 0, 0, 0, 0, 0),
  some (.getfield 209, 3, 0, 0, 7, 11, 0), none, none, some (.aload_n 0, 1, 0, 0, 0, 0, 0), some (.iload_n 1, 1, 0, 0, 1, 0, 0), some (.invokevirtual 215, 3, 0, 0, 129, 1, 7),
  none, none, some (.ifCond .eq 7, 3, 0, 0, 105, 0, 0), none, none, some (.iconst 1, 1, 1, 0, 0, 0, 0),
  some (.goto 4, 3, 0, 0, 106, 0, 0), none, none, some (.iconst 0, 1, 0, 0, 0, 0, 0), some (.iadd, 1, 0, 0, 0, 0, 0), some (.putfield 209, 3, 0, 0, 7, 11, 0),
  none, none, some (.iinc 1 1, 3, 1, 0, 1, 0, 0), none, none, some (.goto (-33), 3, 0, 0, 80, 0, 0),
  none, none, some (.aload_n 0, 1, 0, 0, 0, 0, 0), some (.getfield 209, 3, 0, 0, 7, 11, 0), none, none,
  some (.ifCond .ne 11, 3, 0, 0, 131, 0, 0), none, none, some (.aload_n 0, 1, 0, 0, 0, 0, 0), some (.invokevirtual 218, 3, 0, 0, 135, 0, 7), none,
  none, some (.aload_n 0, 1, 0, 0, 0, 0, 0), some (.invokevirtual 221, 3, 0, 0, 138, 0, 7), none, none, some (.return_, 1, 0, 0, 0, 0, 0)])
def zt_M_layNew : zm_M := (⟨"QuadricFlatsModel", "layNew", "()V"⟩, prog_9_method_37_code, 1, none, 0, false, 7, [
  some (.aload_n 0, 1, 0, 0, 0, 0, 0), some (.invokevirtual 224, 3, 0, 0, 139, 0, 7), none, none, some (.aload_n 0, 1, 0, 0, 0, 0, 0), some (.getfield 56, 3, 0, 0, 7, 29, 0),
  none, none, some (.iconst 0, 1, 0, 0, 0, 0, 0), some (.iconst 0, 1, 0, 0, 0, 0, 0), some (.iastore, 1, 0, 0, 0, 0, 0), some (.aload_n 0, 1, 0, 0, 0, 0, 0),
  some (.getfield 56, 3, 0, 0, 7, 29, 0), none, none, some (.iconst 1, 1, 1, 0, 0, 0, 0), some (.iconst 0, 1, 0, 0, 0, 0, 0), some (.iastore, 1, 0, 0, 0, 0, 0),
  some (.return_, 1, 0, 0, 0, 0, 0)])
def zt_M_isForm : zm_M := (⟨"QuadricFlatsModel", "isForm", "()Z"⟩, prog_9_method_38_code, 1, some .boolean, 0, false, 7, [
  some (.aload_n 0, 1, 0, 0, 0, 0, 0), some (.getfield 123, 3, 0, 0, 7, 0, 0), none, none, some (.ifCond .le 7, 3, 0, 0, 11, 0, 0), none,
  none, some (.iconst 1, 1, 1, 0, 0, 0, 0), some (.goto 4, 3, 0, 0, 12, 0, 0), none, none, some (.iconst 0, 1, 0, 0, 0, 0, 0),
  some (.ireturn, 1, 0, 0, 0, 0, 0)])
def zt_M_isSound : zm_M := (⟨"QuadricFlatsModel", "isSound", "()Z"⟩, prog_9_method_39_code, 1, some .boolean, 0, false, 7, [
  some (.aload_n 0, 1, 0, 0, 0, 0, 0), some (.getfield 123, 3, 0, 0, 7, 0, 0), none, none, some (.ifCond .le 14, 3, 0, 0, 18, 0, 0), none,
  none, some (.aload_n 0, 1, 0, 0, 0, 0, 0), some (.getfield 209, 3, 0, 0, 7, 11, 0), none, none, some (.ifCond .ne 7, 3, 0, 0, 18, 0, 0),
  none, none, some (.iconst 1, 1, 1, 0, 0, 0, 0), some (.goto 4, 3, 0, 0, 19, 0, 0), none, none,
  some (.iconst 0, 1, 0, 0, 0, 0, 0), some (.ireturn, 1, 0, 0, 0, 0, 0)])
def zt_M_index : zm_M := (⟨"QuadricFlatsModel", "index", "()I"⟩, prog_9_method_40_code, 1, some .int, 0, false, 7, [
  some (.aload_n 0, 1, 0, 0, 0, 0, 0), some (.getfield 200, 3, 0, 0, 7, 14, 0), none, none, some (.ifCond .le 7, 3, 0, 0, 11, 0, 0), none,
  none, some (.iconst 3, 1, 3, 0, 0, 0, 0), some (.goto 15, 3, 0, 0, 23, 0, 0), none, none, some (.aload_n 0, 1, 0, 0, 0, 0, 0),
  some (.getfield 180, 3, 0, 0, 7, 12, 0), none, none, some (.ifCond .le 7, 3, 0, 0, 22, 0, 0), none, none,
  some (.iconst 2, 1, 2, 0, 0, 0, 0), some (.goto 4, 3, 0, 0, 23, 0, 0), none, none, some (.iconst 1, 1, 1, 0, 0, 0, 0), some (.ireturn, 1, 0, 0, 0, 0, 0)])
def zt_M_onAt : zm_M := (⟨"QuadricFlatsModel", "onAt", "(I)I"⟩, prog_9_method_41_code, 4, some .int, 1, false, 7, [
  some (.iload_n 1, 1, 0, 0, 1, 0, 0), some (.istore_n 2, 1, 0, 0, 2, 0, 0), some (.iconst 0, 1, 0, 0, 0, 0, 0), some (.istore_n 3, 1, 0, 0, 3, 0, 0), some (.iload_n 2, 1, 0, 0, 2, 0, 0), some (.ifCond .gt 12, 3, 0, 0, 17, 0, 0),
  none, none, some (.aload_n 0, 1, 0, 0, 0, 0, 0), some (.getfield 22, 3, 0, 0, 7, 9, 0), none, none,
  some (.iload_n 3, 1, 0, 0, 3, 0, 0), some (.baload, 1, 0, 0, 0, 0, 0), some (.ifCond .ne 26, 3, 0, 0, 40, 0, 0), none, none, some (.iload_n 2, 1, 0, 0, 2, 0, 0),
  some (.aload_n 0, 1, 0, 0, 0, 0, 0), some (.getfield 22, 3, 0, 0, 7, 9, 0), none, none, some (.iload_n 3, 1, 0, 0, 3, 0, 0), some (.baload, 1, 0, 0, 0, 0, 0),
  some (.ifCond .eq 7, 3, 0, 0, 31, 0, 0), none, none, some (.iconst 1, 1, 1, 0, 0, 0, 0), some (.goto 4, 3, 0, 0, 32, 0, 0), none,
  none, some (.iconst 0, 1, 0, 0, 0, 0, 0), some (.isub, 1, 0, 0, 0, 0, 0), some (.istore_n 2, 1, 0, 0, 2, 0, 0), some (.iinc 3 1, 3, 1, 0, 3, 0, 0), none,
  none, some (.goto (-33), 3, 0, 0, 4, 0, 0), none, none, some (.iload_n 3, 1, 0, 0, 3, 0, 0), some (.ireturn, 1, 0, 0, 0, 0, 0)])
def zt_M_flatsOf : zm_M := (⟨"QuadricFlatsModel", "flatsOf", "(I)I"⟩, prog_9_method_42_code, 2, some .int, 1, false, 7, [
  some (.iload_n 1, 1, 0, 0, 1, 0, 0), some (.iconst 1, 1, 1, 0, 0, 0, 0), some (.if_icmp .ne 10, 3, 0, 0, 12, 0, 0), none, none, some (.aload_n 0, 1, 0, 0, 0, 0, 0),
  some (.getfield 206, 3, 0, 0, 7, 10, 0), none, none, some (.goto 19, 3, 0, 0, 28, 0, 0), none, none,
  some (.iload_n 1, 1, 0, 0, 1, 0, 0), some (.iconst 2, 1, 2, 0, 0, 0, 0), some (.if_icmp .ne 10, 3, 0, 0, 24, 0, 0), none, none, some (.aload_n 0, 1, 0, 0, 0, 0, 0),
  some (.getfield 180, 3, 0, 0, 7, 12, 0), none, none, some (.goto 7, 3, 0, 0, 28, 0, 0), none, none,
  some (.aload_n 0, 1, 0, 0, 0, 0, 0), some (.getfield 200, 3, 0, 0, 7, 14, 0), none, none, some (.ireturn, 1, 0, 0, 0, 0, 0)])
def zt_M_sizeOf : zm_M := (⟨"QuadricFlatsModel", "sizeOf", "(I)I"⟩, prog_9_method_43_code, 2, some .int, 1, false, 7, [
  some (.iload_n 1, 1, 0, 0, 1, 0, 0), some (.iconst 1, 1, 1, 0, 0, 0, 0), some (.if_icmp .ne 7, 3, 0, 0, 9, 0, 0), none, none, some (.iconst 1, 1, 1, 0, 0, 0, 0),
  some (.goto 19, 3, 0, 0, 25, 0, 0), none, none, some (.iload_n 1, 1, 0, 0, 1, 0, 0), some (.iconst 2, 1, 2, 0, 0, 0, 0), some (.if_icmp .ne 12, 3, 0, 0, 23, 0, 0),
  none, none, some (.aload_n 0, 1, 0, 0, 0, 0, 0), some (.getfield 123, 3, 0, 0, 7, 0, 0), none, none,
  some (.iconst 1, 1, 1, 0, 0, 0, 0), some (.iadd, 1, 0, 0, 0, 0, 0), some (.goto 5, 3, 0, 0, 25, 0, 0), none, none, some (.bipush 7, 2, 7, 0, 0, 0, 0),
  none, some (.ireturn, 1, 0, 0, 0, 0, 0)])
def zt_M_pointIn : zm_M := (⟨"QuadricFlatsModel", "pointIn", "(III)I"⟩, prog_9_method_44_code, 4, some .int, 3, false, 7, [
  some (.iload_n 1, 1, 0, 0, 1, 0, 0), some (.iconst 1, 1, 1, 0, 0, 0, 0), some (.if_icmp .ne 11, 3, 0, 0, 13, 0, 0), none, none, some (.aload_n 0, 1, 0, 0, 0, 0, 0),
  some (.iload_n 2, 1, 0, 0, 2, 0, 0), some (.invokevirtual 227, 3, 0, 0, 144, 1, 7), none, none, some (.goto 33, 3, 0, 0, 43, 0, 0), none,
  none, some (.iload_n 1, 1, 0, 0, 1, 0, 0), some (.iconst 2, 1, 2, 0, 0, 0, 0), some (.if_icmp .ne 17, 3, 0, 0, 32, 0, 0), none, none,
  some (.aload_n 0, 1, 0, 0, 0, 0, 0), some (.getfield 26, 3, 0, 0, 7, 13, 0), none, none, some (.bipush 6, 2, 6, 0, 0, 0, 0), none,
  some (.iload_n 2, 1, 0, 0, 2, 0, 0), some (.imul, 1, 0, 0, 0, 0, 0), some (.iload_n 3, 1, 0, 0, 3, 0, 0), some (.iadd, 1, 0, 0, 0, 0, 0), some (.iaload, 1, 0, 0, 0, 0, 0), some (.goto 14, 3, 0, 0, 43, 0, 0),
  none, none, some (.aload_n 0, 1, 0, 0, 0, 0, 0), some (.getfield 29, 3, 0, 0, 7, 15, 0), none, none,
  some (.bipush 7, 2, 7, 0, 0, 0, 0), none, some (.iload_n 2, 1, 0, 0, 2, 0, 0), some (.imul, 1, 0, 0, 0, 0, 0), some (.iload_n 3, 1, 0, 0, 3, 0, 0), some (.iadd, 1, 0, 0, 0, 0, 0),
  some (.iaload, 1, 0, 0, 0, 0, 0), some (.ireturn, 1, 0, 0, 0, 0, 0)])
def zt_M_greatestMany : zm_M := (⟨"QuadricFlatsModel", "greatestMany", "()I"⟩, prog_9_method_45_code, 1, some .int, 0, false, 7, [
  some (.aload_n 0, 1, 0, 0, 0, 0, 0), some (.invokevirtual 230, 3, 0, 0, 142, 0, 7), none, none, some (.ifCond .eq 14, 3, 0, 0, 18, 0, 0), none,
  none, some (.aload_n 0, 1, 0, 0, 0, 0, 0), some (.aload_n 0, 1, 0, 0, 0, 0, 0), some (.invokevirtual 233, 3, 0, 0, 143, 0, 7), none, none,
  some (.invokevirtual 236, 3, 0, 0, 145, 1, 7), none, none, some (.goto 4, 3, 0, 0, 19, 0, 0), none, none,
  some (.iconst 0, 1, 0, 0, 0, 0, 0), some (.ireturn, 1, 0, 0, 0, 0, 0)])
def zt_M_has : zm_M := (⟨"QuadricFlatsModel", "has", "(II)Z"⟩, prog_9_method_46_code, 5, some .boolean, 2, false, 7, [
  some (.iconst 0, 1, 0, 0, 0, 0, 0), some (.istore_n 3, 1, 0, 0, 3, 0, 0), some (.iconst 0, 1, 0, 0, 0, 0, 0), some (.istore 4, 2, 0, 0, 4, 0, 0), none, some (.iload 4, 2, 0, 0, 4, 0, 0),
  none, some (.aload_n 0, 1, 0, 0, 0, 0, 0), some (.aload_n 0, 1, 0, 0, 0, 0, 0), some (.invokevirtual 233, 3, 0, 0, 143, 0, 7), none, none,
  some (.invokevirtual 239, 3, 0, 0, 146, 1, 7), none, none, some (.if_icmp .ge 34, 3, 0, 0, 49, 0, 0), none, none,
  some (.iload_n 3, 1, 0, 0, 3, 0, 0), some (.ifCond .ne 18, 3, 0, 0, 37, 0, 0), none, none, some (.aload_n 0, 1, 0, 0, 0, 0, 0), some (.aload_n 0, 1, 0, 0, 0, 0, 0),
  some (.invokevirtual 233, 3, 0, 0, 143, 0, 7), none, none, some (.iload_n 1, 1, 0, 0, 1, 0, 0), some (.iload 4, 2, 0, 0, 4, 0, 0), none,
  some (.invokevirtual 242, 3, 0, 0, 147, 3, 7), none, none, some (.iload_n 2, 1, 0, 0, 2, 0, 0), some (.if_icmp .ne 7, 3, 0, 0, 41, 0, 0), none,
  none, some (.iconst 1, 1, 1, 0, 0, 0, 0), some (.goto 4, 3, 0, 0, 42, 0, 0), none, none, some (.iconst 0, 1, 0, 0, 0, 0, 0),
  some (.istore_n 3, 1, 0, 0, 3, 0, 0), some (.iinc 4 1, 3, 1, 0, 4, 0, 0), none, none, some (.goto (-41), 3, 0, 0, 5, 0, 0), none,
  none, some (.iload_n 3, 1, 0, 0, 3, 0, 0), some (.ireturn, 1, 0, 0, 0, 0, 0)])
def zt_M_kind : zm_M := (⟨"QuadricFlatsModel", "kind", "()I"⟩, prog_9_method_47_code, 1, some .int, 0, false, 7, [
  some (.aload_n 0, 1, 0, 0, 0, 0, 0), some (.getfield 209, 3, 0, 0, 7, 11, 0), none, none, some (.ifCond .le 5, 3, 0, 0, 9, 0, 0), none,
  none, some (.iconst 3, 1, 3, 0, 0, 0, 0), some (.ireturn, 1, 0, 0, 0, 0, 0), some (.aload_n 0, 1, 0, 0, 0, 0, 0), some (.getfield 126, 3, 0, 0, 7, 1, 0), none,
  none, some (.iconst 2, 1, 2, 0, 0, 0, 0), some (.irem, 1, 0, 0, 0, 0, 0), some (.iconst 1, 1, 1, 0, 0, 0, 0), some (.if_icmp .ne 7, 3, 0, 0, 23, 0, 0), none,
  none, some (.iconst 0, 1, 0, 0, 0, 0, 0), some (.goto 21, 3, 0, 0, 41, 0, 0), none, none, some (.iconst 2, 1, 2, 0, 0, 0, 0),
  some (.aload_n 0, 1, 0, 0, 0, 0, 0), some (.invokevirtual 233, 3, 0, 0, 143, 0, 7), none, none, some (.imul, 1, 0, 0, 0, 0, 0), some (.aload_n 0, 1, 0, 0, 0, 0, 0),
  some (.getfield 126, 3, 0, 0, 7, 1, 0), none, none, some (.if_icmp .ne 7, 3, 0, 0, 40, 0, 0), none, none,
  some (.iconst 1, 1, 1, 0, 0, 0, 0), some (.goto 4, 3, 0, 0, 41, 0, 0), none, none, some (.iconst 2, 1, 2, 0, 0, 0, 0), some (.ireturn, 1, 0, 0, 0, 0, 0)])
def zt_M_layMatrix : zm_M := (⟨"QuadricFlatsModel", "layMatrix", "()V"⟩, prog_9_method_48_code, 4, none, 0, false, 7, [
  some (.iconst 0, 1, 0, 0, 0, 0, 0), some (.istore_n 1, 1, 0, 0, 1, 0, 0), some (.iload_n 1, 1, 0, 0, 1, 0, 0), some (.aload_n 0, 1, 0, 0, 0, 0, 0), some (.getfield 126, 3, 0, 0, 7, 1, 0), none,
  none, some (.if_icmp .ge 84, 3, 0, 0, 91, 0, 0), none, none, some (.iconst 0, 1, 0, 0, 0, 0, 0), some (.istore_n 2, 1, 0, 0, 2, 0, 0),
  some (.iload_n 2, 1, 0, 0, 2, 0, 0), some (.aload_n 0, 1, 0, 0, 0, 0, 0), some (.getfield 126, 3, 0, 0, 7, 1, 0), none, none, some (.if_icmp .ge 68, 3, 0, 0, 85, 0, 0),
  none, none, some (.iload_n 1, 1, 0, 0, 1, 0, 0), some (.iload_n 2, 1, 0, 0, 2, 0, 0), some (.if_icmp .ge 17, 3, 0, 0, 39, 0, 0), none,
  none, some (.aload_n 0, 1, 0, 0, 0, 0, 0), some (.getfield 7, 3, 0, 0, 7, 2, 0), none, none, some (.bipush 6, 2, 6, 0, 0, 0, 0),
  none, some (.iload_n 1, 1, 0, 0, 1, 0, 0), some (.imul, 1, 0, 0, 0, 0, 0), some (.iload_n 2, 1, 0, 0, 2, 0, 0), some (.iadd, 1, 0, 0, 0, 0, 0), some (.iaload, 1, 0, 0, 0, 0, 0),
  some (.goto 14, 3, 0, 0, 50, 0, 0), none, none, some (.aload_n 0, 1, 0, 0, 0, 0, 0), some (.getfield 7, 3, 0, 0, 7, 2, 0), none,
  none, some (.bipush 6, 2, 6, 0, 0, 0, 0), none, some (.iload_n 2, 1, 0, 0, 2, 0, 0), some (.imul, 1, 0, 0, 0, 0, 0), some (.iload_n 1, 1, 0, 0, 1, 0, 0),
  some (.iadd, 1, 0, 0, 0, 0, 0), some (.iaload, 1, 0, 0, 0, 0, 0), some (.istore_n 3, 1, 0, 0, 3, 0, 0), some (.aload_n 0, 1, 0, 0, 0, 0, 0), some (.getfield 53, 3, 0, 0, 7, 28, 0), none,
  none, some (.bipush 6, 2, 6, 0, 0, 0, 0), none, some (.iload_n 1, 1, 0, 0, 1, 0, 0), some (.imul, 1, 0, 0, 0, 0, 0), some (.iload_n 2, 1, 0, 0, 2, 0, 0),
  some (.iadd, 1, 0, 0, 0, 0, 0), some (.iload_n 1, 1, 0, 0, 1, 0, 0), some (.iload_n 2, 1, 0, 0, 2, 0, 0), some (.if_icmp .ne 9, 3, 0, 0, 72, 0, 0), none, none,
  some (.iconst 2, 1, 2, 0, 0, 0, 0), some (.iload_n 3, 1, 0, 0, 3, 0, 0), some (.imul, 1, 0, 0, 0, 0, 0), some (.goto 4, 3, 0, 0, 73, 0, 0), none, none,
  some (.iload_n 3, 1, 0, 0, 3, 0, 0), some (.aload_n 0, 1, 0, 0, 0, 0, 0), some (.getfield 123, 3, 0, 0, 7, 0, 0), none, none, some (.irem, 1, 0, 0, 0, 0, 0),
  some (.iastore, 1, 0, 0, 0, 0, 0), some (.iinc 2 1, 3, 1, 0, 2, 0, 0), none, none, some (.goto (-70), 3, 0, 0, 12, 0, 0), none,
  none, some (.iinc 1 1, 3, 1, 0, 1, 0, 0), none, none, some (.goto (-86), 3, 0, 0, 2, 0, 0), none,
  none, some (.return_, 1, 0, 0, 0, 0, 0)])
def zt_M_determinant : zm_M := (⟨"QuadricFlatsModel", "determinant", "()I"⟩, prog_9_method_49_code, 4, some .int, 0, false, 7, [
  some (.iconst 1, 1, 1, 0, 0, 0, 0), some (.istore_n 1, 1, 0, 0, 1, 0, 0), some (.iconst 0, 1, 0, 0, 0, 0, 0), some (.istore_n 2, 1, 0, 0, 2, 0, 0), some (.iload_n 2, 1, 0, 0, 2, 0, 0), some (.aload_n 0, 1, 0, 0, 0, 0, 0),
  some (.getfield 126, 3, 0, 0, 7, 1, 0), none, none, some (.if_icmp .ge 95, 3, 0, 0, 104, 0, 0), none, none,
  some (.iload_n 2, 1, 0, 0, 2, 0, 0), some (.istore_n 3, 1, 0, 0, 3, 0, 0), some (.iload_n 3, 1, 0, 0, 3, 0, 0), some (.aload_n 0, 1, 0, 0, 0, 0, 0), some (.getfield 126, 3, 0, 0, 7, 1, 0), none,
  none, some (.if_icmp .ge 23, 3, 0, 0, 42, 0, 0), none, none, some (.aload_n 0, 1, 0, 0, 0, 0, 0), some (.getfield 53, 3, 0, 0, 7, 28, 0),
  none, none, some (.bipush 6, 2, 6, 0, 0, 0, 0), none, some (.iload_n 3, 1, 0, 0, 3, 0, 0), some (.imul, 1, 0, 0, 0, 0, 0),
  some (.iload_n 2, 1, 0, 0, 2, 0, 0), some (.iadd, 1, 0, 0, 0, 0, 0), some (.iaload, 1, 0, 0, 0, 0, 0), some (.ifCond .ne 9, 3, 0, 0, 42, 0, 0), none, none,
  some (.iinc 3 1, 3, 1, 0, 3, 0, 0), none, none, some (.goto (-25), 3, 0, 0, 14, 0, 0), none, none,
  some (.iload_n 3, 1, 0, 0, 3, 0, 0), some (.aload_n 0, 1, 0, 0, 0, 0, 0), some (.getfield 126, 3, 0, 0, 7, 1, 0), none, none, some (.if_icmp .ne 5, 3, 0, 0, 52, 0, 0),
  none, none, some (.iconst 0, 1, 0, 0, 0, 0, 0), some (.ireturn, 1, 0, 0, 0, 0, 0), some (.iload_n 3, 1, 0, 0, 3, 0, 0), some (.iload_n 2, 1, 0, 0, 2, 0, 0),
  some (.if_icmp .ne 7, 3, 0, 0, 61, 0, 0), none, none, some (.iload_n 1, 1, 0, 0, 1, 0, 0), some (.goto 9, 3, 0, 0, 67, 0, 0), none,
  none, some (.aload_n 0, 1, 0, 0, 0, 0, 0), some (.getfield 123, 3, 0, 0, 7, 0, 0), none, none, some (.iload_n 1, 1, 0, 0, 1, 0, 0),
  some (.isub, 1, 0, 0, 0, 0, 0), some (.istore_n 1, 1, 0, 0, 1, 0, 0), some (.aload_n 0, 1, 0, 0, 0, 0, 0), some (.iload_n 2, 1, 0, 0, 2, 0, 0), some (.iload_n 3, 1, 0, 0, 3, 0, 0), some (.invokevirtual 246, 3, 0, 0, 153, 2, 7),
  none, none, some (.iload_n 1, 1, 0, 0, 1, 0, 0), some (.aload_n 0, 1, 0, 0, 0, 0, 0), some (.getfield 53, 3, 0, 0, 7, 28, 0), none,
  none, some (.bipush 6, 2, 6, 0, 0, 0, 0), none, some (.iload_n 2, 1, 0, 0, 2, 0, 0), some (.imul, 1, 0, 0, 0, 0, 0), some (.iload_n 2, 1, 0, 0, 2, 0, 0),
  some (.iadd, 1, 0, 0, 0, 0, 0), some (.iaload, 1, 0, 0, 0, 0, 0), some (.imul, 1, 0, 0, 0, 0, 0), some (.aload_n 0, 1, 0, 0, 0, 0, 0), some (.getfield 123, 3, 0, 0, 7, 0, 0), none,
  none, some (.irem, 1, 0, 0, 0, 0, 0), some (.istore_n 1, 1, 0, 0, 1, 0, 0), some (.aload_n 0, 1, 0, 0, 0, 0, 0), some (.iload_n 2, 1, 0, 0, 2, 0, 0), some (.invokevirtual 249, 3, 0, 0, 154, 1, 7),
  none, none, some (.iinc 2 1, 3, 1, 0, 2, 0, 0), none, none, some (.goto (-97), 3, 0, 0, 4, 0, 0),
  none, none, some (.iload_n 1, 1, 0, 0, 1, 0, 0), some (.ireturn, 1, 0, 0, 0, 0, 0)])
def zt_M_swapLines : zm_M := (⟨"QuadricFlatsModel", "swapLines", "(II)V"⟩, prog_9_method_50_code, 5, none, 2, false, 7, [
  some (.iconst 0, 1, 0, 0, 0, 0, 0), some (.istore_n 3, 1, 0, 0, 3, 0, 0), some (.iload_n 3, 1, 0, 0, 3, 0, 0), some (.aload_n 0, 1, 0, 0, 0, 0, 0), some (.getfield 126, 3, 0, 0, 7, 1, 0), none,
  none, some (.if_icmp .ge 57, 3, 0, 0, 64, 0, 0), none, none, some (.aload_n 0, 1, 0, 0, 0, 0, 0), some (.getfield 53, 3, 0, 0, 7, 28, 0),
  none, none, some (.bipush 6, 2, 6, 0, 0, 0, 0), none, some (.iload_n 1, 1, 0, 0, 1, 0, 0), some (.imul, 1, 0, 0, 0, 0, 0),
  some (.iload_n 3, 1, 0, 0, 3, 0, 0), some (.iadd, 1, 0, 0, 0, 0, 0), some (.iaload, 1, 0, 0, 0, 0, 0), some (.istore 4, 2, 0, 0, 4, 0, 0), none, some (.aload_n 0, 1, 0, 0, 0, 0, 0),
  some (.getfield 53, 3, 0, 0, 7, 28, 0), none, none, some (.bipush 6, 2, 6, 0, 0, 0, 0), none, some (.iload_n 1, 1, 0, 0, 1, 0, 0),
  some (.imul, 1, 0, 0, 0, 0, 0), some (.iload_n 3, 1, 0, 0, 3, 0, 0), some (.iadd, 1, 0, 0, 0, 0, 0), some (.aload_n 0, 1, 0, 0, 0, 0, 0), some (.getfield 53, 3, 0, 0, 7, 28, 0), none,
  none, some (.bipush 6, 2, 6, 0, 0, 0, 0), none, some (.iload_n 2, 1, 0, 0, 2, 0, 0), some (.imul, 1, 0, 0, 0, 0, 0), some (.iload_n 3, 1, 0, 0, 3, 0, 0),
  some (.iadd, 1, 0, 0, 0, 0, 0), some (.iaload, 1, 0, 0, 0, 0, 0), some (.iastore, 1, 0, 0, 0, 0, 0), some (.aload_n 0, 1, 0, 0, 0, 0, 0), some (.getfield 53, 3, 0, 0, 7, 28, 0), none,
  none, some (.bipush 6, 2, 6, 0, 0, 0, 0), none, some (.iload_n 2, 1, 0, 0, 2, 0, 0), some (.imul, 1, 0, 0, 0, 0, 0), some (.iload_n 3, 1, 0, 0, 3, 0, 0),
  some (.iadd, 1, 0, 0, 0, 0, 0), some (.iload 4, 2, 0, 0, 4, 0, 0), none, some (.iastore, 1, 0, 0, 0, 0, 0), some (.iinc 3 1, 3, 1, 0, 3, 0, 0), none,
  none, some (.goto (-59), 3, 0, 0, 2, 0, 0), none, none, some (.return_, 1, 0, 0, 0, 0, 0)])
def zt_M_clearBelow : zm_M := (⟨"QuadricFlatsModel", "clearBelow", "(I)V"⟩, prog_9_method_51_code, 6, none, 1, false, 7, [
  some (.iconst 1, 1, 1, 0, 0, 0, 0), some (.istore_n 2, 1, 0, 0, 2, 0, 0), some (.aload_n 0, 1, 0, 0, 0, 0, 0), some (.getfield 53, 3, 0, 0, 7, 28, 0), none, none,
  some (.bipush 6, 2, 6, 0, 0, 0, 0), none, some (.iload_n 1, 1, 0, 0, 1, 0, 0), some (.imul, 1, 0, 0, 0, 0, 0), some (.iload_n 1, 1, 0, 0, 1, 0, 0), some (.iadd, 1, 0, 0, 0, 0, 0),
  some (.iaload, 1, 0, 0, 0, 0, 0), some (.iload_n 2, 1, 0, 0, 2, 0, 0), some (.imul, 1, 0, 0, 0, 0, 0), some (.aload_n 0, 1, 0, 0, 0, 0, 0), some (.getfield 123, 3, 0, 0, 7, 0, 0), none,
  none, some (.irem, 1, 0, 0, 0, 0, 0), some (.iconst 1, 1, 1, 0, 0, 0, 0), some (.if_icmp .eq 9, 3, 0, 0, 30, 0, 0), none, none,
  some (.iinc 2 1, 3, 1, 0, 2, 0, 0), none, none, some (.goto (-25), 3, 0, 0, 2, 0, 0), none, none,
  some (.iload_n 1, 1, 0, 0, 1, 0, 0), some (.iconst 1, 1, 1, 0, 0, 0, 0), some (.iadd, 1, 0, 0, 0, 0, 0), some (.istore_n 3, 1, 0, 0, 3, 0, 0), some (.iload_n 3, 1, 0, 0, 3, 0, 0), some (.aload_n 0, 1, 0, 0, 0, 0, 0),
  some (.getfield 126, 3, 0, 0, 7, 1, 0), none, none, some (.if_icmp .ge 94, 3, 0, 0, 133, 0, 0), none, none,
  some (.aload_n 0, 1, 0, 0, 0, 0, 0), some (.getfield 53, 3, 0, 0, 7, 28, 0), none, none, some (.bipush 6, 2, 6, 0, 0, 0, 0), none,
  some (.iload_n 3, 1, 0, 0, 3, 0, 0), some (.imul, 1, 0, 0, 0, 0, 0), some (.iload_n 1, 1, 0, 0, 1, 0, 0), some (.iadd, 1, 0, 0, 0, 0, 0), some (.iaload, 1, 0, 0, 0, 0, 0), some (.iload_n 2, 1, 0, 0, 2, 0, 0),
  some (.imul, 1, 0, 0, 0, 0, 0), some (.aload_n 0, 1, 0, 0, 0, 0, 0), some (.getfield 123, 3, 0, 0, 7, 0, 0), none, none, some (.irem, 1, 0, 0, 0, 0, 0),
  some (.istore 4, 2, 0, 0, 4, 0, 0), none, some (.iload_n 1, 1, 0, 0, 1, 0, 0), some (.istore 5, 2, 0, 0, 5, 0, 0), none, some (.iload 5, 2, 0, 0, 5, 0, 0),
  none, some (.aload_n 0, 1, 0, 0, 0, 0, 0), some (.getfield 126, 3, 0, 0, 7, 1, 0), none, none, some (.if_icmp .ge 56, 3, 0, 0, 127, 0, 0),
  none, none, some (.aload_n 0, 1, 0, 0, 0, 0, 0), some (.getfield 53, 3, 0, 0, 7, 28, 0), none, none,
  some (.bipush 6, 2, 6, 0, 0, 0, 0), none, some (.iload_n 3, 1, 0, 0, 3, 0, 0), some (.imul, 1, 0, 0, 0, 0, 0), some (.iload 5, 2, 0, 0, 5, 0, 0), none,
  some (.iadd, 1, 0, 0, 0, 0, 0), some (.aload_n 0, 1, 0, 0, 0, 0, 0), some (.getfield 53, 3, 0, 0, 7, 28, 0), none, none, some (.bipush 6, 2, 6, 0, 0, 0, 0),
  none, some (.iload_n 3, 1, 0, 0, 3, 0, 0), some (.imul, 1, 0, 0, 0, 0, 0), some (.iload 5, 2, 0, 0, 5, 0, 0), none, some (.iadd, 1, 0, 0, 0, 0, 0),
  some (.iaload, 1, 0, 0, 0, 0, 0), some (.iload 4, 2, 0, 0, 4, 0, 0), none, some (.aload_n 0, 1, 0, 0, 0, 0, 0), some (.getfield 53, 3, 0, 0, 7, 28, 0), none,
  none, some (.bipush 6, 2, 6, 0, 0, 0, 0), none, some (.iload_n 1, 1, 0, 0, 1, 0, 0), some (.imul, 1, 0, 0, 0, 0, 0), some (.iload 5, 2, 0, 0, 5, 0, 0),
  none, some (.iadd, 1, 0, 0, 0, 0, 0), some (.iaload, 1, 0, 0, 0, 0, 0), some (.imul, 1, 0, 0, 0, 0, 0), some (.isub, 1, 0, 0, 0, 0, 0), some (.aload_n 0, 1, 0, 0, 0, 0, 0),
  some (.getfield 123, 3, 0, 0, 7, 0, 0), none, none, some (.invokestatic 152, 3, 0, 0, 108, 2, 0), none, none,
  some (.iastore, 1, 0, 0, 0, 0, 0), some (.iinc 5 1, 3, 1, 0, 5, 0, 0), none, none, some (.goto (-59), 3, 0, 0, 65, 0, 0), none,
  none, some (.iinc 3 1, 3, 1, 0, 3, 0, 0), none, none, some (.goto (-96), 3, 0, 0, 34, 0, 0), none,
  none, some (.return_, 1, 0, 0, 0, 0, 0)])
def zt_M_disc : zm_M := (⟨"QuadricFlatsModel", "disc", "()I"⟩, prog_9_method_52_code, 4, some .int, 0, false, 7, [
  some (.aload_n 0, 1, 0, 0, 0, 0, 0), some (.getfield 123, 3, 0, 0, 7, 0, 0), none, none, some (.iconst 2, 1, 2, 0, 0, 0, 0), some (.if_icmp .ne 5, 3, 0, 0, 10, 0, 0),
  none, none, some (.iconst 0, 1, 0, 0, 0, 0, 0), some (.ireturn, 1, 0, 0, 0, 0, 0), some (.aload_n 0, 1, 0, 0, 0, 0, 0), some (.invokevirtual 252, 3, 0, 0, 151, 0, 7),
  none, none, some (.aload_n 0, 1, 0, 0, 0, 0, 0), some (.invokevirtual 255, 3, 0, 0, 152, 0, 7), none, none,
  some (.istore_n 1, 1, 0, 0, 1, 0, 0), some (.iconst 0, 1, 0, 0, 0, 0, 0), some (.istore_n 2, 1, 0, 0, 2, 0, 0), some (.iconst 1, 1, 1, 0, 0, 0, 0), some (.istore_n 3, 1, 0, 0, 3, 0, 0), some (.iload_n 3, 1, 0, 0, 3, 0, 0),
  some (.aload_n 0, 1, 0, 0, 0, 0, 0), some (.getfield 123, 3, 0, 0, 7, 0, 0), none, none, some (.if_icmp .ge 31, 3, 0, 0, 59, 0, 0), none,
  none, some (.iload_n 2, 1, 0, 0, 2, 0, 0), some (.ifCond .ne 15, 3, 0, 0, 47, 0, 0), none, none, some (.iload_n 3, 1, 0, 0, 3, 0, 0),
  some (.iload_n 3, 1, 0, 0, 3, 0, 0), some (.imul, 1, 0, 0, 0, 0, 0), some (.aload_n 0, 1, 0, 0, 0, 0, 0), some (.getfield 123, 3, 0, 0, 7, 0, 0), none, none,
  some (.irem, 1, 0, 0, 0, 0, 0), some (.iload_n 1, 1, 0, 0, 1, 0, 0), some (.if_icmp .ne 7, 3, 0, 0, 51, 0, 0), none, none, some (.iconst 1, 1, 1, 0, 0, 0, 0),
  some (.goto 4, 3, 0, 0, 52, 0, 0), none, none, some (.iconst 0, 1, 0, 0, 0, 0, 0), some (.istore_n 2, 1, 0, 0, 2, 0, 0), some (.iinc 3 1, 3, 1, 0, 3, 0, 0),
  none, none, some (.goto (-33), 3, 0, 0, 23, 0, 0), none, none, some (.iload_n 1, 1, 0, 0, 1, 0, 0),
  some (.ifCond .ne 7, 3, 0, 0, 67, 0, 0), none, none, some (.iconst 0, 1, 0, 0, 0, 0, 0), some (.goto 12, 3, 0, 0, 76, 0, 0), none,
  none, some (.iload_n 2, 1, 0, 0, 2, 0, 0), some (.ifCond .eq 7, 3, 0, 0, 75, 0, 0), none, none, some (.iconst 1, 1, 1, 0, 0, 0, 0),
  some (.goto 4, 3, 0, 0, 76, 0, 0), none, none, some (.iconst (-1), 1, (-1), 0, 0, 0, 0), some (.ireturn, 1, 0, 0, 0, 0, 0)])
def zt_M_aboutNow : zm_M := (⟨"QuadricFlatsModel", "aboutNow", "(I)I"⟩, prog_9_method_53_code, 2, some .int, 1, false, 7, [
  some (.iload_n 1, 1, 0, 0, 1, 0, 0), some (.tableswitch 78 0 6 #[43, 48, 53, 58, 63, 68, 73], 43, 0, 0, 0, 0, 0), none, none, none, none,
  none, none, none, none, none, none,
  none, none, none, none, none, none,
  none, none, none, none, none, none,
  none, none, none, none, none, none,
  none, none, none, none, none, none,
  none, none, none, none, none, none,
  none, none, some (.aload_n 0, 1, 0, 0, 0, 0, 0), some (.getfield 123, 3, 0, 0, 7, 0, 0), none, none,
  some (.ireturn, 1, 0, 0, 0, 0, 0), some (.aload_n 0, 1, 0, 0, 0, 0, 0), some (.getfield 126, 3, 0, 0, 7, 1, 0), none, none, some (.ireturn, 1, 0, 0, 0, 0, 0),
  some (.aload_n 0, 1, 0, 0, 0, 0, 0), some (.getfield 138, 3, 0, 0, 7, 6, 0), none, none, some (.ireturn, 1, 0, 0, 0, 0, 0), some (.aload_n 0, 1, 0, 0, 0, 0, 0),
  some (.getfield 206, 3, 0, 0, 7, 10, 0), none, none, some (.ireturn, 1, 0, 0, 0, 0, 0), some (.aload_n 0, 1, 0, 0, 0, 0, 0), some (.getfield 209, 3, 0, 0, 7, 11, 0),
  none, none, some (.ireturn, 1, 0, 0, 0, 0, 0), some (.aload_n 0, 1, 0, 0, 0, 0, 0), some (.invokevirtual 258, 3, 0, 0, 150, 0, 7), none,
  none, some (.ireturn, 1, 0, 0, 0, 0, 0), some (.aload_n 0, 1, 0, 0, 0, 0, 0), some (.invokevirtual 261, 3, 0, 0, 155, 0, 7), none, none,
  some (.ireturn, 1, 0, 0, 0, 0, 0), some (.aload_n 0, 1, 0, 0, 0, 0, 0), some (.invokevirtual 230, 3, 0, 0, 142, 0, 7), none, none, some (.ifCond .eq 10, 3, 0, 0, 93, 0, 0),
  none, none, some (.aload_n 0, 1, 0, 0, 0, 0, 0), some (.invokevirtual 233, 3, 0, 0, 143, 0, 7), none, none,
  some (.goto 4, 3, 0, 0, 94, 0, 0), none, none, some (.iconst (-1), 1, (-1), 0, 0, 0, 0), some (.ireturn, 1, 0, 0, 0, 0, 0)])
def zt_M_about : zm_M := (⟨"QuadricFlatsModel", "about", "(I)I"⟩, prog_9_method_54_code, 2, some .int, 1, false, 7, [
  some (.iload_n 1, 1, 0, 0, 1, 0, 0), some (.iconst 0, 1, 0, 0, 0, 0, 0), some (.bipush 7, 2, 7, 0, 0, 0, 0), none, some (.invokestatic 84, 3, 0, 0, 107, 3, 0), none,
  none, some (.ifCond .ne 6, 3, 0, 0, 13, 0, 0), none, none, some (.bipush (-102), 2, (-102), 0, 0, 0, 0), none,
  some (.ireturn, 1, 0, 0, 0, 0, 0), some (.aload_n 0, 1, 0, 0, 0, 0, 0), some (.invokevirtual 264, 3, 0, 0, 141, 0, 7), none, none, some (.ifCond .eq 11, 3, 0, 0, 28, 0, 0),
  none, none, some (.aload_n 0, 1, 0, 0, 0, 0, 0), some (.iload_n 1, 1, 0, 0, 1, 0, 0), some (.invokevirtual 267, 3, 0, 0, 156, 1, 7), none,
  none, some (.goto 5, 3, 0, 0, 30, 0, 0), none, none, some (.bipush (-103), 2, (-103), 0, 0, 0, 0), none,
  some (.ireturn, 1, 0, 0, 0, 0, 0)])
def zt_M_isVariable : zm_M := (⟨"QuadricFlatsModel", "isVariable", "(I)Z"⟩, prog_9_method_55_code, 2, some .boolean, 1, false, 7, [
  some (.aload_n 0, 1, 0, 0, 0, 0, 0), some (.invokevirtual 264, 3, 0, 0, 141, 0, 7), none, none, some (.ifCond .eq 21, 3, 0, 0, 25, 0, 0), none,
  none, some (.iload_n 1, 1, 0, 0, 1, 0, 0), some (.iconst 0, 1, 0, 0, 0, 0, 0), some (.aload_n 0, 1, 0, 0, 0, 0, 0), some (.getfield 126, 3, 0, 0, 7, 1, 0), none,
  none, some (.iconst 1, 1, 1, 0, 0, 0, 0), some (.isub, 1, 0, 0, 0, 0, 0), some (.invokestatic 84, 3, 0, 0, 107, 3, 0), none, none,
  some (.ifCond .eq 7, 3, 0, 0, 25, 0, 0), none, none, some (.iconst 1, 1, 1, 0, 0, 0, 0), some (.goto 4, 3, 0, 0, 26, 0, 0), none,
  none, some (.iconst 0, 1, 0, 0, 0, 0, 0), some (.ireturn, 1, 0, 0, 0, 0, 0)])
def zt_M_placeOf : zm_M := (⟨"QuadricFlatsModel", "placeOf", "(II)I"⟩, prog_9_method_56_code, 2, some .int, 2, true, 7, [
  some (.iload_n 0, 1, 0, 0, 0, 0, 0), some (.iload_n 1, 1, 0, 0, 1, 0, 0), some (.if_icmp .ge 12, 3, 0, 0, 14, 0, 0), none, none, some (.bipush 6, 2, 6, 0, 0, 0, 0),
  none, some (.iload_n 0, 1, 0, 0, 0, 0, 0), some (.imul, 1, 0, 0, 0, 0, 0), some (.iload_n 1, 1, 0, 0, 1, 0, 0), some (.iadd, 1, 0, 0, 0, 0, 0), some (.goto 9, 3, 0, 0, 20, 0, 0),
  none, none, some (.bipush 6, 2, 6, 0, 0, 0, 0), none, some (.iload_n 1, 1, 0, 0, 1, 0, 0), some (.imul, 1, 0, 0, 0, 0, 0),
  some (.iload_n 0, 1, 0, 0, 0, 0, 0), some (.iadd, 1, 0, 0, 0, 0, 0), some (.ireturn, 1, 0, 0, 0, 0, 0)])
def zt_M_coefficient : zm_M := (⟨"QuadricFlatsModel", "coefficient", "(II)I"⟩, prog_9_method_57_code, 3, some .int, 2, false, 7, [
  some (.aload_n 0, 1, 0, 0, 0, 0, 0), some (.iload_n 1, 1, 0, 0, 1, 0, 0), some (.invokevirtual 270, 3, 0, 0, 158, 1, 7), none, none, some (.ifCond .eq 24, 3, 0, 0, 29, 0, 0),
  none, none, some (.aload_n 0, 1, 0, 0, 0, 0, 0), some (.iload_n 2, 1, 0, 0, 2, 0, 0), some (.invokevirtual 270, 3, 0, 0, 158, 1, 7), none,
  none, some (.ifCond .eq 16, 3, 0, 0, 29, 0, 0), none, none, some (.aload_n 0, 1, 0, 0, 0, 0, 0), some (.getfield 7, 3, 0, 0, 7, 2, 0),
  none, none, some (.iload_n 1, 1, 0, 0, 1, 0, 0), some (.iload_n 2, 1, 0, 0, 2, 0, 0), some (.invokestatic 273, 3, 0, 0, 159, 2, 0), none,
  none, some (.iaload, 1, 0, 0, 0, 0, 0), some (.goto 5, 3, 0, 0, 31, 0, 0), none, none, some (.bipush (-101), 2, (-101), 0, 0, 0, 0),
  none, some (.ireturn, 1, 0, 0, 0, 0, 0)])
def zt_M_isPoint : zm_M := (⟨"QuadricFlatsModel", "isPoint", "(I)Z"⟩, prog_9_method_58_code, 2, some .boolean, 1, false, 7, [
  some (.aload_n 0, 1, 0, 0, 0, 0, 0), some (.invokevirtual 264, 3, 0, 0, 141, 0, 7), none, none, some (.ifCond .eq 21, 3, 0, 0, 25, 0, 0), none,
  none, some (.iload_n 1, 1, 0, 0, 1, 0, 0), some (.iconst 0, 1, 0, 0, 0, 0, 0), some (.aload_n 0, 1, 0, 0, 0, 0, 0), some (.getfield 138, 3, 0, 0, 7, 6, 0), none,
  none, some (.iconst 1, 1, 1, 0, 0, 0, 0), some (.isub, 1, 0, 0, 0, 0, 0), some (.invokestatic 84, 3, 0, 0, 107, 3, 0), none, none,
  some (.ifCond .eq 7, 3, 0, 0, 25, 0, 0), none, none, some (.iconst 1, 1, 1, 0, 0, 0, 0), some (.goto 4, 3, 0, 0, 26, 0, 0), none,
  none, some (.iconst 0, 1, 0, 0, 0, 0, 0), some (.ireturn, 1, 0, 0, 0, 0, 0)])
def zt_M_point : zm_M := (⟨"QuadricFlatsModel", "point", "(II)I"⟩, prog_9_method_59_code, 3, some .int, 2, false, 7, [
  some (.aload_n 0, 1, 0, 0, 0, 0, 0), some (.iload_n 1, 1, 0, 0, 1, 0, 0), some (.invokevirtual 276, 3, 0, 0, 161, 1, 7), none, none, some (.ifCond .eq 25, 3, 0, 0, 30, 0, 0),
  none, none, some (.aload_n 0, 1, 0, 0, 0, 0, 0), some (.iload_n 2, 1, 0, 0, 2, 0, 0), some (.invokevirtual 270, 3, 0, 0, 158, 1, 7), none,
  none, some (.ifCond .eq 17, 3, 0, 0, 30, 0, 0), none, none, some (.aload_n 0, 1, 0, 0, 0, 0, 0), some (.getfield 16, 3, 0, 0, 7, 7, 0),
  none, none, some (.bipush 6, 2, 6, 0, 0, 0, 0), none, some (.iload_n 1, 1, 0, 0, 1, 0, 0), some (.imul, 1, 0, 0, 0, 0, 0),
  some (.iload_n 2, 1, 0, 0, 2, 0, 0), some (.iadd, 1, 0, 0, 0, 0, 0), some (.iaload, 1, 0, 0, 0, 0, 0), some (.goto 5, 3, 0, 0, 32, 0, 0), none, none,
  some (.bipush (-101), 2, (-101), 0, 0, 0, 0), none, some (.ireturn, 1, 0, 0, 0, 0, 0)])
def zt_M_value : zm_M := (⟨"QuadricFlatsModel", "value", "(I)I"⟩, prog_9_method_60_code, 2, some .int, 1, false, 7, [
  some (.aload_n 0, 1, 0, 0, 0, 0, 0), some (.iload_n 1, 1, 0, 0, 1, 0, 0), some (.invokevirtual 276, 3, 0, 0, 161, 1, 7), none, none, some (.ifCond .eq 11, 3, 0, 0, 16, 0, 0),
  none, none, some (.aload_n 0, 1, 0, 0, 0, 0, 0), some (.iload_n 1, 1, 0, 0, 1, 0, 0), some (.invokevirtual 212, 3, 0, 0, 125, 1, 7), none,
  none, some (.goto 5, 3, 0, 0, 18, 0, 0), none, none, some (.bipush (-101), 2, (-101), 0, 0, 0, 0), none,
  some (.ireturn, 1, 0, 0, 0, 0, 0)])
def zt_M_polar : zm_M := (⟨"QuadricFlatsModel", "polar", "(II)I"⟩, prog_9_method_61_code, 3, some .int, 2, false, 7, [
  some (.aload_n 0, 1, 0, 0, 0, 0, 0), some (.iload_n 1, 1, 0, 0, 1, 0, 0), some (.invokevirtual 276, 3, 0, 0, 161, 1, 7), none, none, some (.ifCond .eq 20, 3, 0, 0, 25, 0, 0),
  none, none, some (.aload_n 0, 1, 0, 0, 0, 0, 0), some (.iload_n 2, 1, 0, 0, 2, 0, 0), some (.invokevirtual 276, 3, 0, 0, 161, 1, 7), none,
  none, some (.ifCond .eq 12, 3, 0, 0, 25, 0, 0), none, none, some (.aload_n 0, 1, 0, 0, 0, 0, 0), some (.iload_n 1, 1, 0, 0, 1, 0, 0),
  some (.iload_n 2, 1, 0, 0, 2, 0, 0), some (.invokevirtual 171, 3, 0, 0, 126, 2, 7), none, none, some (.goto 5, 3, 0, 0, 27, 0, 0), none,
  none, some (.bipush (-101), 2, (-101), 0, 0, 0, 0), none, some (.ireturn, 1, 0, 0, 0, 0, 0)])
def zt_M_joined : zm_M := (⟨"QuadricFlatsModel", "joined", "(II)I"⟩, prog_9_method_62_code, 3, some .int, 2, false, 7, [
  some (.aload_n 0, 1, 0, 0, 0, 0, 0), some (.iload_n 1, 1, 0, 0, 1, 0, 0), some (.invokevirtual 276, 3, 0, 0, 161, 1, 7), none, none, some (.ifCond .eq 11, 3, 0, 0, 16, 0, 0),
  none, none, some (.aload_n 0, 1, 0, 0, 0, 0, 0), some (.iload_n 2, 1, 0, 0, 2, 0, 0), some (.invokevirtual 276, 3, 0, 0, 161, 1, 7), none,
  none, some (.ifCond .ne 8, 3, 0, 0, 21, 0, 0), none, none, some (.bipush (-101), 2, (-101), 0, 0, 0, 0), none,
  some (.goto 17, 3, 0, 0, 35, 0, 0), none, none, some (.aload_n 0, 1, 0, 0, 0, 0, 0), some (.iload_n 1, 1, 0, 0, 1, 0, 0), some (.iload_n 2, 1, 0, 0, 2, 0, 0),
  some (.invokevirtual 279, 3, 0, 0, 128, 2, 7), none, none, some (.ifCond .eq 7, 3, 0, 0, 34, 0, 0), none, none,
  some (.iconst 1, 1, 1, 0, 0, 0, 0), some (.goto 4, 3, 0, 0, 35, 0, 0), none, none, some (.iconst 0, 1, 0, 0, 0, 0, 0), some (.ireturn, 1, 0, 0, 0, 0, 0)])
def zt_M_isInSection : zm_M := (⟨"QuadricFlatsModel", "isInSection", "(II)Z"⟩, prog_9_method_63_code, 5, some .boolean, 2, false, 7, [
  some (.iconst 0, 1, 0, 0, 0, 0, 0), some (.istore_n 3, 1, 0, 0, 3, 0, 0), some (.iconst 0, 1, 0, 0, 0, 0, 0), some (.istore 4, 2, 0, 0, 4, 0, 0), none, some (.iload 4, 2, 0, 0, 4, 0, 0),
  none, some (.aload_n 0, 1, 0, 0, 0, 0, 0), some (.getfield 126, 3, 0, 0, 7, 1, 0), none, none, some (.if_icmp .ge 37, 3, 0, 0, 48, 0, 0),
  none, none, some (.iload_n 3, 1, 0, 0, 3, 0, 0), some (.aload_n 0, 1, 0, 0, 0, 0, 0), some (.getfield 16, 3, 0, 0, 7, 7, 0), none,
  none, some (.bipush 6, 2, 6, 0, 0, 0, 0), none, some (.iload_n 1, 1, 0, 0, 1, 0, 0), some (.imul, 1, 0, 0, 0, 0, 0), some (.iload 4, 2, 0, 0, 4, 0, 0),
  none, some (.iadd, 1, 0, 0, 0, 0, 0), some (.iaload, 1, 0, 0, 0, 0, 0), some (.aload_n 0, 1, 0, 0, 0, 0, 0), some (.getfield 16, 3, 0, 0, 7, 7, 0), none,
  none, some (.bipush 6, 2, 6, 0, 0, 0, 0), none, some (.iload_n 2, 1, 0, 0, 2, 0, 0), some (.imul, 1, 0, 0, 0, 0, 0), some (.iload 4, 2, 0, 0, 4, 0, 0),
  none, some (.iadd, 1, 0, 0, 0, 0, 0), some (.iaload, 1, 0, 0, 0, 0, 0), some (.imul, 1, 0, 0, 0, 0, 0), some (.iadd, 1, 0, 0, 0, 0, 0), some (.istore_n 3, 1, 0, 0, 3, 0, 0),
  some (.iinc 4 1, 3, 1, 0, 4, 0, 0), none, none, some (.goto (-40), 3, 0, 0, 5, 0, 0), none, none,
  some (.iload_n 3, 1, 0, 0, 3, 0, 0), some (.aload_n 0, 1, 0, 0, 0, 0, 0), some (.getfield 123, 3, 0, 0, 7, 0, 0), none, none, some (.irem, 1, 0, 0, 0, 0, 0),
  some (.ifCond .ne 7, 3, 0, 0, 61, 0, 0), none, none, some (.iconst 1, 1, 1, 0, 0, 0, 0), some (.goto 4, 3, 0, 0, 62, 0, 0), none,
  none, some (.iconst 0, 1, 0, 0, 0, 0, 0), some (.ireturn, 1, 0, 0, 0, 0, 0)])
def zt_M_sectionOn : zm_M := (⟨"QuadricFlatsModel", "sectionOn", "(I)I"⟩, prog_9_method_64_code, 4, some .int, 1, false, 7, [
  some (.iconst 0, 1, 0, 0, 0, 0, 0), some (.istore_n 2, 1, 0, 0, 2, 0, 0), some (.iconst 0, 1, 0, 0, 0, 0, 0), some (.istore_n 3, 1, 0, 0, 3, 0, 0), some (.iload_n 3, 1, 0, 0, 3, 0, 0), some (.aload_n 0, 1, 0, 0, 0, 0, 0),
  some (.getfield 138, 3, 0, 0, 7, 6, 0), none, none, some (.if_icmp .ge 35, 3, 0, 0, 44, 0, 0), none, none,
  some (.iload_n 2, 1, 0, 0, 2, 0, 0), some (.aload_n 0, 1, 0, 0, 0, 0, 0), some (.getfield 22, 3, 0, 0, 7, 9, 0), none, none, some (.iload_n 3, 1, 0, 0, 3, 0, 0),
  some (.baload, 1, 0, 0, 0, 0, 0), some (.ifCond .eq 16, 3, 0, 0, 35, 0, 0), none, none, some (.aload_n 0, 1, 0, 0, 0, 0, 0), some (.iload_n 1, 1, 0, 0, 1, 0, 0),
  some (.iload_n 3, 1, 0, 0, 3, 0, 0), some (.invokevirtual 282, 3, 0, 0, 166, 2, 7), none, none, some (.ifCond .eq 7, 3, 0, 0, 35, 0, 0), none,
  none, some (.iconst 1, 1, 1, 0, 0, 0, 0), some (.goto 4, 3, 0, 0, 36, 0, 0), none, none, some (.iconst 0, 1, 0, 0, 0, 0, 0),
  some (.iadd, 1, 0, 0, 0, 0, 0), some (.istore_n 2, 1, 0, 0, 2, 0, 0), some (.iinc 3 1, 3, 1, 0, 3, 0, 0), none, none, some (.goto (-37), 3, 0, 0, 4, 0, 0),
  none, none, some (.iload_n 2, 1, 0, 0, 2, 0, 0), some (.ireturn, 1, 0, 0, 0, 0, 0)])
def zt_M_isTouched : zm_M := (⟨"QuadricFlatsModel", "isTouched", "(II)Z"⟩, prog_9_method_65_code, 5, some .boolean, 2, false, 7, [
  some (.aload_n 0, 1, 0, 0, 0, 0, 0), some (.getfield 22, 3, 0, 0, 7, 9, 0), none, none, some (.iload_n 2, 1, 0, 0, 2, 0, 0), some (.baload, 1, 0, 0, 0, 0, 0),
  some (.ifCond .eq 15, 3, 0, 0, 21, 0, 0), none, none, some (.aload_n 0, 1, 0, 0, 0, 0, 0), some (.iload_n 2, 1, 0, 0, 2, 0, 0), some (.invokevirtual 215, 3, 0, 0, 129, 1, 7),
  none, none, some (.ifCond .ne 7, 3, 0, 0, 21, 0, 0), none, none, some (.iconst 1, 1, 1, 0, 0, 0, 0),
  some (.goto 4, 3, 0, 0, 22, 0, 0), none, none, some (.iconst 0, 1, 0, 0, 0, 0, 0), some (.istore_n 3, 1, 0, 0, 3, 0, 0), some (.iconst 0, 1, 0, 0, 0, 0, 0),
  some (.istore 4, 2, 0, 0, 4, 0, 0), none, some (.iload 4, 2, 0, 0, 4, 0, 0), none, some (.aload_n 0, 1, 0, 0, 0, 0, 0), some (.getfield 138, 3, 0, 0, 7, 6, 0),
  none, none, some (.if_icmp .ge 44, 3, 0, 0, 76, 0, 0), none, none, some (.iload_n 3, 1, 0, 0, 3, 0, 0),
  some (.ifCond .eq 40, 3, 0, 0, 76, 0, 0), none, none, some (.aload_n 0, 1, 0, 0, 0, 0, 0), some (.iload_n 1, 1, 0, 0, 1, 0, 0), some (.iload 4, 2, 0, 0, 4, 0, 0),
  none, some (.invokevirtual 282, 3, 0, 0, 166, 2, 7), none, none, some (.aload_n 0, 1, 0, 0, 0, 0, 0), some (.iload_n 2, 1, 0, 0, 2, 0, 0),
  some (.iload 4, 2, 0, 0, 4, 0, 0), none, some (.invokevirtual 171, 3, 0, 0, 126, 2, 7), none, none, some (.ifCond .ne 7, 3, 0, 0, 60, 0, 0),
  none, none, some (.iconst 1, 1, 1, 0, 0, 0, 0), some (.goto 4, 3, 0, 0, 61, 0, 0), none, none,
  some (.iconst 0, 1, 0, 0, 0, 0, 0), some (.if_icmp .ne 7, 3, 0, 0, 68, 0, 0), none, none, some (.iconst 1, 1, 1, 0, 0, 0, 0), some (.goto 4, 3, 0, 0, 69, 0, 0),
  none, none, some (.iconst 0, 1, 0, 0, 0, 0, 0), some (.istore_n 3, 1, 0, 0, 3, 0, 0), some (.iinc 4 1, 3, 1, 0, 4, 0, 0), none,
  none, some (.goto (-47), 3, 0, 0, 26, 0, 0), none, none, some (.iload_n 3, 1, 0, 0, 3, 0, 0), some (.ireturn, 1, 0, 0, 0, 0, 0)])
def zt_M_touches : zm_M := (⟨"QuadricFlatsModel", "touches", "(I)I"⟩, prog_9_method_66_code, 3, some .int, 1, false, 7, [
  some (.iconst 0, 1, 0, 0, 0, 0, 0), some (.istore_n 2, 1, 0, 0, 2, 0, 0), some (.iload_n 2, 1, 0, 0, 2, 0, 0), some (.aload_n 0, 1, 0, 0, 0, 0, 0), some (.getfield 138, 3, 0, 0, 7, 6, 0), none,
  none, some (.if_icmp .ge 18, 3, 0, 0, 25, 0, 0), none, none, some (.aload_n 0, 1, 0, 0, 0, 0, 0), some (.iload_n 1, 1, 0, 0, 1, 0, 0),
  some (.iload_n 2, 1, 0, 0, 2, 0, 0), some (.invokevirtual 285, 3, 0, 0, 168, 2, 7), none, none, some (.ifCond .ne 9, 3, 0, 0, 25, 0, 0), none,
  none, some (.iinc 2 1, 3, 1, 0, 2, 0, 0), none, none, some (.goto (-20), 3, 0, 0, 2, 0, 0), none,
  none, some (.iload_n 2, 1, 0, 0, 2, 0, 0), some (.aload_n 0, 1, 0, 0, 0, 0, 0), some (.getfield 138, 3, 0, 0, 7, 6, 0), none, none,
  some (.if_icmp .ge 7, 3, 0, 0, 37, 0, 0), none, none, some (.iload_n 2, 1, 0, 0, 2, 0, 0), some (.goto 4, 3, 0, 0, 38, 0, 0), none,
  none, some (.iconst (-1), 1, (-1), 0, 0, 0, 0), some (.ireturn, 1, 0, 0, 0, 0, 0)])
def zt_M_section : zm_M := (⟨"QuadricFlatsModel", "section", "(II)I"⟩, prog_9_method_67_code, 3, some .int, 2, false, 7, [
  some (.aload_n 0, 1, 0, 0, 0, 0, 0), some (.iload_n 1, 1, 0, 0, 1, 0, 0), some (.invokevirtual 276, 3, 0, 0, 161, 1, 7), none, none, some (.ifCond .ne 6, 3, 0, 0, 11, 0, 0),
  none, none, some (.bipush (-101), 2, (-101), 0, 0, 0, 0), none, some (.ireturn, 1, 0, 0, 0, 0, 0), some (.iload_n 2, 1, 0, 0, 2, 0, 0),
  some (.iconst 0, 1, 0, 0, 0, 0, 0), some (.iconst 1, 1, 1, 0, 0, 0, 0), some (.invokestatic 84, 3, 0, 0, 107, 3, 0), none, none, some (.ifCond .ne 8, 3, 0, 0, 25, 0, 0),
  none, none, some (.bipush (-102), 2, (-102), 0, 0, 0, 0), none, some (.goto 20, 3, 0, 0, 42, 0, 0), none,
  none, some (.iload_n 2, 1, 0, 0, 2, 0, 0), some (.ifCond .ne 11, 3, 0, 0, 37, 0, 0), none, none, some (.aload_n 0, 1, 0, 0, 0, 0, 0),
  some (.iload_n 1, 1, 0, 0, 1, 0, 0), some (.invokevirtual 288, 3, 0, 0, 167, 1, 7), none, none, some (.goto 8, 3, 0, 0, 42, 0, 0), none,
  none, some (.aload_n 0, 1, 0, 0, 0, 0, 0), some (.iload_n 1, 1, 0, 0, 1, 0, 0), some (.invokevirtual 291, 3, 0, 0, 169, 1, 7), none, none,
  some (.ireturn, 1, 0, 0, 0, 0, 0)])
def zt_M_flats : zm_M := (⟨"QuadricFlatsModel", "flats", "(I)I"⟩, prog_9_method_68_code, 2, some .int, 1, false, 7, [
  some (.iload_n 1, 1, 0, 0, 1, 0, 0), some (.iconst 1, 1, 1, 0, 0, 0, 0), some (.iconst 3, 1, 3, 0, 0, 0, 0), some (.invokestatic 84, 3, 0, 0, 107, 3, 0), none, none,
  some (.ifCond .ne 6, 3, 0, 0, 12, 0, 0), none, none, some (.bipush (-102), 2, (-102), 0, 0, 0, 0), none, some (.ireturn, 1, 0, 0, 0, 0, 0),
  some (.aload_n 0, 1, 0, 0, 0, 0, 0), some (.invokevirtual 230, 3, 0, 0, 142, 0, 7), none, none, some (.ifCond .eq 11, 3, 0, 0, 27, 0, 0), none,
  none, some (.aload_n 0, 1, 0, 0, 0, 0, 0), some (.iload_n 1, 1, 0, 0, 1, 0, 0), some (.invokevirtual 236, 3, 0, 0, 145, 1, 7), none, none,
  some (.goto 5, 3, 0, 0, 29, 0, 0), none, none, some (.bipush (-103), 2, (-103), 0, 0, 0, 0), none, some (.ireturn, 1, 0, 0, 0, 0, 0)])
def zt_M_flat : zm_M := (⟨"QuadricFlatsModel", "flat", "(III)I"⟩, prog_9_method_69_code, 5, some .int, 3, false, 7, [
  some (.iload_n 1, 1, 0, 0, 1, 0, 0), some (.iconst 1, 1, 1, 0, 0, 0, 0), some (.iconst 3, 1, 3, 0, 0, 0, 0), some (.invokestatic 84, 3, 0, 0, 107, 3, 0), none, none,
  some (.ifCond .ne 6, 3, 0, 0, 12, 0, 0), none, none, some (.bipush (-102), 2, (-102), 0, 0, 0, 0), none, some (.ireturn, 1, 0, 0, 0, 0, 0),
  some (.aload_n 0, 1, 0, 0, 0, 0, 0), some (.invokevirtual 230, 3, 0, 0, 142, 0, 7), none, none, some (.ifCond .ne 6, 3, 0, 0, 22, 0, 0), none,
  none, some (.bipush (-103), 2, (-103), 0, 0, 0, 0), none, some (.ireturn, 1, 0, 0, 0, 0, 0), some (.iload_n 2, 1, 0, 0, 2, 0, 0), some (.iconst 0, 1, 0, 0, 0, 0, 0),
  some (.aload_n 0, 1, 0, 0, 0, 0, 0), some (.iload_n 1, 1, 0, 0, 1, 0, 0), some (.invokevirtual 236, 3, 0, 0, 145, 1, 7), none, none, some (.iconst 1, 1, 1, 0, 0, 0, 0),
  some (.isub, 1, 0, 0, 0, 0, 0), some (.invokestatic 84, 3, 0, 0, 107, 3, 0), none, none, some (.ifCond .eq 22, 3, 0, 0, 56, 0, 0), none,
  none, some (.iload_n 3, 1, 0, 0, 3, 0, 0), some (.iconst 0, 1, 0, 0, 0, 0, 0), some (.aload_n 0, 1, 0, 0, 0, 0, 0), some (.iload_n 1, 1, 0, 0, 1, 0, 0), some (.invokevirtual 239, 3, 0, 0, 146, 1, 7),
  none, none, some (.iconst 1, 1, 1, 0, 0, 0, 0), some (.isub, 1, 0, 0, 0, 0, 0), some (.invokestatic 84, 3, 0, 0, 107, 3, 0), none,
  none, some (.ifCond .eq 7, 3, 0, 0, 56, 0, 0), none, none, some (.iconst 1, 1, 1, 0, 0, 0, 0), some (.goto 4, 3, 0, 0, 57, 0, 0),
  none, none, some (.iconst 0, 1, 0, 0, 0, 0, 0), some (.istore 4, 2, 0, 0, 4, 0, 0), none, some (.iload 4, 2, 0, 0, 4, 0, 0),
  none, some (.ifCond .eq 13, 3, 0, 0, 74, 0, 0), none, none, some (.aload_n 0, 1, 0, 0, 0, 0, 0), some (.iload_n 1, 1, 0, 0, 1, 0, 0),
  some (.iload_n 2, 1, 0, 0, 2, 0, 0), some (.iload_n 3, 1, 0, 0, 3, 0, 0), some (.invokevirtual 242, 3, 0, 0, 147, 3, 7), none, none, some (.goto 5, 3, 0, 0, 76, 0, 0),
  none, none, some (.bipush (-101), 2, (-101), 0, 0, 0, 0), none, some (.ireturn, 1, 0, 0, 0, 0, 0)])
def zt_M_isGreatest : zm_M := (⟨"QuadricFlatsModel", "isGreatest", "(I)Z"⟩, prog_9_method_70_code, 2, some .boolean, 1, false, 7, [
  some (.iload_n 1, 1, 0, 0, 1, 0, 0), some (.iconst 0, 1, 0, 0, 0, 0, 0), some (.aload_n 0, 1, 0, 0, 0, 0, 0), some (.invokevirtual 294, 3, 0, 0, 148, 0, 7), none, none,
  some (.iconst 1, 1, 1, 0, 0, 0, 0), some (.isub, 1, 0, 0, 0, 0, 0), some (.invokestatic 84, 3, 0, 0, 107, 3, 0), none, none, some (.ireturn, 1, 0, 0, 0, 0, 0)])
def zt_M_isOnPoint : zm_M := (⟨"QuadricFlatsModel", "isOnPoint", "(I)Z"⟩, prog_9_method_71_code, 2, some .boolean, 1, false, 7, [
  some (.aload_n 0, 1, 0, 0, 0, 0, 0), some (.iload_n 1, 1, 0, 0, 1, 0, 0), some (.invokevirtual 276, 3, 0, 0, 161, 1, 7), none, none, some (.ifCond .eq 16, 3, 0, 0, 21, 0, 0),
  none, none, some (.aload_n 0, 1, 0, 0, 0, 0, 0), some (.getfield 22, 3, 0, 0, 7, 9, 0), none, none,
  some (.iload_n 1, 1, 0, 0, 1, 0, 0), some (.baload, 1, 0, 0, 0, 0, 0), some (.ifCond .eq 7, 3, 0, 0, 21, 0, 0), none, none, some (.iconst 1, 1, 1, 0, 0, 0, 0),
  some (.goto 4, 3, 0, 0, 22, 0, 0), none, none, some (.iconst 0, 1, 0, 0, 0, 0, 0), some (.ireturn, 1, 0, 0, 0, 0, 0)])
def zt_M_nearNow : zm_M := (⟨"QuadricFlatsModel", "nearNow", "(III)I"⟩, prog_9_method_72_code, 8, some .int, 3, false, 7, [
  some (.iconst 0, 1, 0, 0, 0, 0, 0), some (.istore 4, 2, 0, 0, 4, 0, 0), none, some (.iconst (-1), 1, (-1), 0, 0, 0, 0), some (.istore 5, 2, 0, 0, 5, 0, 0), none,
  some (.aload_n 0, 1, 0, 0, 0, 0, 0), some (.aload_n 0, 1, 0, 0, 0, 0, 0), some (.invokevirtual 233, 3, 0, 0, 143, 0, 7), none, none, some (.invokevirtual 239, 3, 0, 0, 146, 1, 7),
  none, none, some (.iconst 1, 1, 1, 0, 0, 0, 0), some (.isub, 1, 0, 0, 0, 0, 0), some (.istore 6, 2, 0, 0, 6, 0, 0), none,
  some (.iload 6, 2, 0, 0, 6, 0, 0), none, some (.ifCond .lt 45, 3, 0, 0, 65, 0, 0), none, none, some (.aload_n 0, 1, 0, 0, 0, 0, 0),
  some (.aload_n 0, 1, 0, 0, 0, 0, 0), some (.invokevirtual 233, 3, 0, 0, 143, 0, 7), none, none, some (.iload_n 2, 1, 0, 0, 2, 0, 0), some (.iload 6, 2, 0, 0, 6, 0, 0),
  none, some (.invokevirtual 242, 3, 0, 0, 147, 3, 7), none, none, some (.istore 7, 2, 0, 0, 7, 0, 0), none,
  some (.iload 7, 2, 0, 0, 7, 0, 0), none, some (.iload_n 1, 1, 0, 0, 1, 0, 0), some (.if_icmp .eq 13, 3, 0, 0, 52, 0, 0), none, none,
  some (.aload_n 0, 1, 0, 0, 0, 0, 0), some (.iload 7, 2, 0, 0, 7, 0, 0), none, some (.iload_n 1, 1, 0, 0, 1, 0, 0), some (.invokevirtual 279, 3, 0, 0, 128, 2, 7), none,
  none, some (.ifCond .eq 10, 3, 0, 0, 59, 0, 0), none, none, some (.iinc 4 1, 3, 1, 0, 4, 0, 0), none,
  none, some (.iload 7, 2, 0, 0, 7, 0, 0), none, some (.istore 5, 2, 0, 0, 5, 0, 0), none, some (.iinc 6 (-1), 3, (-1), 0, 6, 0, 0),
  none, none, some (.goto (-44), 3, 0, 0, 18, 0, 0), none, none, some (.iload_n 3, 1, 0, 0, 3, 0, 0),
  some (.ifCond .ne 8, 3, 0, 0, 74, 0, 0), none, none, some (.iload 4, 2, 0, 0, 4, 0, 0), none, some (.goto 5, 3, 0, 0, 76, 0, 0),
  none, none, some (.iload 5, 2, 0, 0, 5, 0, 0), none, some (.ireturn, 1, 0, 0, 0, 0, 0)])
def zt_M_near : zm_M := (⟨"QuadricFlatsModel", "near", "(III)I"⟩, prog_9_method_73_code, 4, some .int, 3, false, 7, [
  some (.aload_n 0, 1, 0, 0, 0, 0, 0), some (.invokevirtual 230, 3, 0, 0, 142, 0, 7), none, none, some (.ifCond .ne 6, 3, 0, 0, 10, 0, 0), none,
  none, some (.bipush (-103), 2, (-103), 0, 0, 0, 0), none, some (.ireturn, 1, 0, 0, 0, 0, 0), some (.aload_n 0, 1, 0, 0, 0, 0, 0), some (.iload_n 1, 1, 0, 0, 1, 0, 0),
  some (.invokevirtual 297, 3, 0, 0, 174, 1, 7), none, none, some (.ifCond .eq 11, 3, 0, 0, 26, 0, 0), none, none,
  some (.aload_n 0, 1, 0, 0, 0, 0, 0), some (.iload_n 2, 1, 0, 0, 2, 0, 0), some (.invokevirtual 300, 3, 0, 0, 173, 1, 7), none, none, some (.ifCond .ne 6, 3, 0, 0, 29, 0, 0),
  none, none, some (.bipush (-101), 2, (-101), 0, 0, 0, 0), none, some (.ireturn, 1, 0, 0, 0, 0, 0), some (.iload_n 3, 1, 0, 0, 3, 0, 0),
  some (.iconst 0, 1, 0, 0, 0, 0, 0), some (.iconst 1, 1, 1, 0, 0, 0, 0), some (.invokestatic 84, 3, 0, 0, 107, 3, 0), none, none, some (.ifCond .eq 13, 3, 0, 0, 48, 0, 0),
  none, none, some (.aload_n 0, 1, 0, 0, 0, 0, 0), some (.iload_n 1, 1, 0, 0, 1, 0, 0), some (.iload_n 2, 1, 0, 0, 2, 0, 0), some (.iload_n 3, 1, 0, 0, 3, 0, 0),
  some (.invokevirtual 303, 3, 0, 0, 175, 3, 7), none, none, some (.goto 5, 3, 0, 0, 50, 0, 0), none, none,
  some (.bipush (-102), 2, (-102), 0, 0, 0, 0), none, some (.ireturn, 1, 0, 0, 0, 0, 0)])
def zt_M_reach : zm_M := (⟨"QuadricFlatsModel", "reach", "(II)J"⟩, prog_9_method_75_code, 7, some .long, 2, false, 7, [
  some (.lconst 0, 1, 0, 0, 0, 0, 0), some (.lstore_n 3, 1, 0, 0, 3, 0, 0), some (.iload_n 1, 1, 0, 0, 1, 0, 0), some (.ifCond .ne 44, 3, 0, 0, 47, 0, 0), none, none,
  some (.iconst 0, 1, 0, 0, 0, 0, 0), some (.istore 5, 2, 0, 0, 5, 0, 0), none, some (.iload 5, 2, 0, 0, 5, 0, 0), none, some (.aload_n 0, 1, 0, 0, 0, 0, 0),
  some (.invokevirtual 294, 3, 0, 0, 148, 0, 7), none, none, some (.if_icmp .ge 30, 3, 0, 0, 45, 0, 0), none, none,
  some (.lload_n 3, 1, 0, 0, 3, 0, 0), some (.aload_n 0, 1, 0, 0, 0, 0, 0), some (.iload 5, 2, 0, 0, 5, 0, 0), none, some (.iload_n 2, 1, 0, 0, 2, 0, 0), some (.invokevirtual 306, 3, 0, 0, 149, 2, 7),
  none, none, some (.ifCond .eq 10, 3, 0, 0, 36, 0, 0), none, none, some (.lconst 1, 1, 0, 1, 0, 0, 0),
  some (.iload 5, 2, 0, 0, 5, 0, 0), none, some (.lshl, 1, 0, 0, 0, 0, 0), some (.goto 4, 3, 0, 0, 37, 0, 0), none, none,
  some (.lconst 0, 1, 0, 0, 0, 0, 0), some (.lor, 1, 0, 0, 0, 0, 0), some (.lstore_n 3, 1, 0, 0, 3, 0, 0), some (.iinc 5 1, 3, 1, 0, 5, 0, 0), none, none,
  some (.goto (-33), 3, 0, 0, 9, 0, 0), none, none, some (.lload_n 3, 1, 0, 0, 3, 0, 0), some (.lreturn, 1, 0, 0, 0, 0, 0), some (.iconst 0, 1, 0, 0, 0, 0, 0),
  some (.istore 5, 2, 0, 0, 5, 0, 0), none, some (.iconst 0, 1, 0, 0, 0, 0, 0), some (.istore 6, 2, 0, 0, 6, 0, 0), none, some (.iload 6, 2, 0, 0, 6, 0, 0),
  none, some (.aload_n 0, 1, 0, 0, 0, 0, 0), some (.getfield 138, 3, 0, 0, 7, 6, 0), none, none, some (.if_icmp .ge 60, 3, 0, 0, 119, 0, 0),
  none, none, some (.lload_n 3, 1, 0, 0, 3, 0, 0), some (.aload_n 0, 1, 0, 0, 0, 0, 0), some (.getfield 22, 3, 0, 0, 7, 9, 0), none,
  none, some (.iload 6, 2, 0, 0, 6, 0, 0), none, some (.baload, 1, 0, 0, 0, 0, 0), some (.ifCond .eq 20, 3, 0, 0, 90, 0, 0), none,
  none, some (.aload_n 0, 1, 0, 0, 0, 0, 0), some (.iload_n 2, 1, 0, 0, 2, 0, 0), some (.iload 6, 2, 0, 0, 6, 0, 0), none, some (.invokevirtual 306, 3, 0, 0, 149, 2, 7),
  none, none, some (.ifCond .eq 10, 3, 0, 0, 90, 0, 0), none, none, some (.lconst 1, 1, 0, 1, 0, 0, 0),
  some (.iload 5, 2, 0, 0, 5, 0, 0), none, some (.lshl, 1, 0, 0, 0, 0, 0), some (.goto 4, 3, 0, 0, 91, 0, 0), none, none,
  some (.lconst 0, 1, 0, 0, 0, 0, 0), some (.lor, 1, 0, 0, 0, 0, 0), some (.lstore_n 3, 1, 0, 0, 3, 0, 0), some (.iload 5, 2, 0, 0, 5, 0, 0), none, some (.aload_n 0, 1, 0, 0, 0, 0, 0),
  some (.getfield 22, 3, 0, 0, 7, 9, 0), none, none, some (.iload 6, 2, 0, 0, 6, 0, 0), none, some (.baload, 1, 0, 0, 0, 0, 0),
  some (.ifCond .eq 7, 3, 0, 0, 109, 0, 0), none, none, some (.iconst 1, 1, 1, 0, 0, 0, 0), some (.goto 4, 3, 0, 0, 110, 0, 0), none,
  none, some (.iconst 0, 1, 0, 0, 0, 0, 0), some (.iadd, 1, 0, 0, 0, 0, 0), some (.istore 5, 2, 0, 0, 5, 0, 0), none, some (.iinc 6 1, 3, 1, 0, 6, 0, 0),
  none, none, some (.goto (-63), 3, 0, 0, 53, 0, 0), none, none, some (.lload_n 3, 1, 0, 0, 3, 0, 0),
  some (.lreturn, 1, 0, 0, 0, 0, 0)])
def zt_M_reached : zm_M := (⟨"QuadricFlatsModel", "reached", "(I)J"⟩, prog_9_method_76_code, 5, some .long, 1, false, 7, [
  some (.lconst 0, 1, 0, 0, 0, 0, 0), some (.lstore_n 2, 1, 0, 0, 2, 0, 0), some (.iconst 0, 1, 0, 0, 0, 0, 0), some (.istore 4, 2, 0, 0, 4, 0, 0), none, some (.iload 4, 2, 0, 0, 4, 0, 0),
  none, some (.aload_n 0, 1, 0, 0, 0, 0, 0), some (.getfield 56, 3, 0, 0, 7, 29, 0), none, none, some (.iload_n 1, 1, 0, 0, 1, 0, 0),
  some (.iaload, 1, 0, 0, 0, 0, 0), some (.if_icmp .ge 29, 3, 0, 0, 42, 0, 0), none, none, some (.lload_n 2, 1, 0, 0, 2, 0, 0), some (.aload_n 0, 1, 0, 0, 0, 0, 0),
  some (.iload_n 1, 1, 0, 0, 1, 0, 0), some (.aload_n 0, 1, 0, 0, 0, 0, 0), some (.getfield 59, 3, 0, 0, 7, 30, 0), none, none, some (.bipush 64, 2, 64, 0, 0, 0, 0),
  none, some (.iload_n 1, 1, 0, 0, 1, 0, 0), some (.imul, 1, 0, 0, 0, 0, 0), some (.iload 4, 2, 0, 0, 4, 0, 0), none, some (.iadd, 1, 0, 0, 0, 0, 0),
  some (.iaload, 1, 0, 0, 0, 0, 0), some (.invokevirtual 309, 3, 0, 0, 177, 2, 7), none, none, some (.lor, 1, 0, 0, 0, 0, 0), some (.lstore_n 2, 1, 0, 0, 2, 0, 0),
  some (.iinc 4 1, 3, 1, 0, 4, 0, 0), none, none, some (.goto (-34), 3, 0, 0, 5, 0, 0), none, none,
  some (.lload_n 2, 1, 0, 0, 2, 0, 0), some (.lreturn, 1, 0, 0, 0, 0, 0)])
def zt_M_choose : zm_M := (⟨"QuadricFlatsModel", "choose", "(II)I"⟩, prog_9_method_77_code, 3, some .int, 2, false, 7, [
  some (.aload_n 0, 1, 0, 0, 0, 0, 0), some (.iload_n 1, 1, 0, 0, 1, 0, 0), some (.invokevirtual 313, 3, 0, 0, 178, 1, 7), none, none, some (.aload_n 0, 1, 0, 0, 0, 0, 0),
  some (.iload_n 1, 1, 0, 0, 1, 0, 0), some (.iload_n 2, 1, 0, 0, 2, 0, 0), some (.invokevirtual 309, 3, 0, 0, 177, 2, 7), none, none, some (.land, 1, 0, 0, 0, 0, 0),
  some (.lconst 0, 1, 0, 0, 0, 0, 0), some (.lcmp, 1, 0, 0, 0, 0, 0), some (.ifCond .eq 6, 3, 0, 0, 20, 0, 0), none, none, some (.bipush (-103), 2, (-103), 0, 0, 0, 0),
  none, some (.ireturn, 1, 0, 0, 0, 0, 0), some (.aload_n 0, 1, 0, 0, 0, 0, 0), some (.getfield 59, 3, 0, 0, 7, 30, 0), none, none,
  some (.bipush 64, 2, 64, 0, 0, 0, 0), none, some (.iload_n 1, 1, 0, 0, 1, 0, 0), some (.imul, 1, 0, 0, 0, 0, 0), some (.aload_n 0, 1, 0, 0, 0, 0, 0), some (.getfield 56, 3, 0, 0, 7, 29, 0),
  none, none, some (.iload_n 1, 1, 0, 0, 1, 0, 0), some (.iaload, 1, 0, 0, 0, 0, 0), some (.iadd, 1, 0, 0, 0, 0, 0), some (.iload_n 2, 1, 0, 0, 2, 0, 0),
  some (.iastore, 1, 0, 0, 0, 0, 0), some (.aload_n 0, 1, 0, 0, 0, 0, 0), some (.getfield 56, 3, 0, 0, 7, 29, 0), none, none, some (.iload_n 1, 1, 0, 0, 1, 0, 0),
  some (.dup2, 1, 0, 0, 0, 0, 0), some (.iaload, 1, 0, 0, 0, 0, 0), some (.iconst 1, 1, 1, 0, 0, 0, 0), some (.iadd, 1, 0, 0, 0, 0, 0), some (.iastore, 1, 0, 0, 0, 0, 0), some (.aload_n 0, 1, 0, 0, 0, 0, 0),
  some (.getfield 56, 3, 0, 0, 7, 29, 0), none, none, some (.iload_n 1, 1, 0, 0, 1, 0, 0), some (.iaload, 1, 0, 0, 0, 0, 0), some (.ireturn, 1, 0, 0, 0, 0, 0)])
def zt_M_pick : zm_M := (⟨"QuadricFlatsModel", "pick", "(I)I"⟩, prog_9_method_78_code, 2, some .int, 1, false, 7, [
  some (.aload_n 0, 1, 0, 0, 0, 0, 0), some (.invokevirtual 230, 3, 0, 0, 142, 0, 7), none, none, some (.ifCond .ne 6, 3, 0, 0, 10, 0, 0), none,
  none, some (.bipush (-103), 2, (-103), 0, 0, 0, 0), none, some (.ireturn, 1, 0, 0, 0, 0, 0), some (.aload_n 0, 1, 0, 0, 0, 0, 0), some (.iload_n 1, 1, 0, 0, 1, 0, 0),
  some (.invokevirtual 297, 3, 0, 0, 174, 1, 7), none, none, some (.ifCond .eq 12, 3, 0, 0, 27, 0, 0), none, none,
  some (.aload_n 0, 1, 0, 0, 0, 0, 0), some (.iconst 0, 1, 0, 0, 0, 0, 0), some (.iload_n 1, 1, 0, 0, 1, 0, 0), some (.invokevirtual 317, 3, 0, 0, 179, 2, 7), none, none,
  some (.goto 5, 3, 0, 0, 29, 0, 0), none, none, some (.bipush (-101), 2, (-101), 0, 0, 0, 0), none, some (.ireturn, 1, 0, 0, 0, 0, 0)])
def zt_M_gather : zm_M := (⟨"QuadricFlatsModel", "gather", "(I)I"⟩, prog_9_method_79_code, 2, some .int, 1, false, 7, [
  some (.aload_n 0, 1, 0, 0, 0, 0, 0), some (.invokevirtual 230, 3, 0, 0, 142, 0, 7), none, none, some (.ifCond .ne 6, 3, 0, 0, 10, 0, 0), none,
  none, some (.bipush (-103), 2, (-103), 0, 0, 0, 0), none, some (.ireturn, 1, 0, 0, 0, 0, 0), some (.aload_n 0, 1, 0, 0, 0, 0, 0), some (.iload_n 1, 1, 0, 0, 1, 0, 0),
  some (.invokevirtual 300, 3, 0, 0, 173, 1, 7), none, none, some (.ifCond .eq 12, 3, 0, 0, 27, 0, 0), none, none,
  some (.aload_n 0, 1, 0, 0, 0, 0, 0), some (.iconst 1, 1, 1, 0, 0, 0, 0), some (.iload_n 1, 1, 0, 0, 1, 0, 0), some (.invokevirtual 317, 3, 0, 0, 179, 2, 7), none, none,
  some (.goto 5, 3, 0, 0, 29, 0, 0), none, none, some (.bipush (-101), 2, (-101), 0, 0, 0, 0), none, some (.ireturn, 1, 0, 0, 0, 0, 0)])
def zt_M_isOf : zm_M := (⟨"QuadricFlatsModel", "isOf", "(I)Z"⟩, prog_9_method_80_code, 1, some .boolean, 1, true, 7, [
  some (.iload_n 0, 1, 0, 0, 0, 0, 0), some (.iconst 0, 1, 0, 0, 0, 0, 0), some (.iconst 1, 1, 1, 0, 0, 0, 0), some (.invokestatic 84, 3, 0, 0, 107, 3, 0), none, none,
  some (.ireturn, 1, 0, 0, 0, 0, 0)])
def zt_M_drop : zm_M := (⟨"QuadricFlatsModel", "drop", "(I)I"⟩, prog_9_method_81_code, 2, some .int, 1, false, 7, [
  some (.iload_n 1, 1, 0, 0, 1, 0, 0), some (.invokestatic 320, 3, 0, 0, 182, 1, 0), none, none, some (.ifCond .ne 6, 3, 0, 0, 10, 0, 0), none,
  none, some (.bipush (-102), 2, (-102), 0, 0, 0, 0), none, some (.ireturn, 1, 0, 0, 0, 0, 0), some (.aload_n 0, 1, 0, 0, 0, 0, 0), some (.getfield 56, 3, 0, 0, 7, 29, 0),
  none, none, some (.iload_n 1, 1, 0, 0, 1, 0, 0), some (.iaload, 1, 0, 0, 0, 0, 0), some (.ifCond .ne 6, 3, 0, 0, 22, 0, 0), none,
  none, some (.bipush (-103), 2, (-103), 0, 0, 0, 0), none, some (.ireturn, 1, 0, 0, 0, 0, 0), some (.aload_n 0, 1, 0, 0, 0, 0, 0), some (.getfield 56, 3, 0, 0, 7, 29, 0),
  none, none, some (.iload_n 1, 1, 0, 0, 1, 0, 0), some (.dup2, 1, 0, 0, 0, 0, 0), some (.iaload, 1, 0, 0, 0, 0, 0), some (.iconst 1, 1, 1, 0, 0, 0, 0),
  some (.isub, 1, 0, 0, 0, 0, 0), some (.iastore, 1, 0, 0, 0, 0, 0), some (.aload_n 0, 1, 0, 0, 0, 0, 0), some (.getfield 59, 3, 0, 0, 7, 30, 0), none, none,
  some (.bipush 64, 2, 64, 0, 0, 0, 0), none, some (.iload_n 1, 1, 0, 0, 1, 0, 0), some (.imul, 1, 0, 0, 0, 0, 0), some (.aload_n 0, 1, 0, 0, 0, 0, 0), some (.getfield 56, 3, 0, 0, 7, 29, 0),
  none, none, some (.iload_n 1, 1, 0, 0, 1, 0, 0), some (.iaload, 1, 0, 0, 0, 0, 0), some (.iadd, 1, 0, 0, 0, 0, 0), some (.iaload, 1, 0, 0, 0, 0, 0),
  some (.ireturn, 1, 0, 0, 0, 0, 0)])
def zt_M_chosen : zm_M := (⟨"QuadricFlatsModel", "chosen", "(II)I"⟩, prog_9_method_82_code, 3, some .int, 2, false, 7, [
  some (.iload_n 1, 1, 0, 0, 1, 0, 0), some (.invokestatic 320, 3, 0, 0, 182, 1, 0), none, none, some (.ifCond .ne 6, 3, 0, 0, 10, 0, 0), none,
  none, some (.bipush (-102), 2, (-102), 0, 0, 0, 0), none, some (.ireturn, 1, 0, 0, 0, 0, 0), some (.iload_n 2, 1, 0, 0, 2, 0, 0), some (.iconst 0, 1, 0, 0, 0, 0, 0),
  some (.aload_n 0, 1, 0, 0, 0, 0, 0), some (.getfield 56, 3, 0, 0, 7, 29, 0), none, none, some (.iload_n 1, 1, 0, 0, 1, 0, 0), some (.iaload, 1, 0, 0, 0, 0, 0),
  some (.iconst 1, 1, 1, 0, 0, 0, 0), some (.isub, 1, 0, 0, 0, 0, 0), some (.invokestatic 84, 3, 0, 0, 107, 3, 0), none, none, some (.ifCond .eq 17, 3, 0, 0, 40, 0, 0),
  none, none, some (.aload_n 0, 1, 0, 0, 0, 0, 0), some (.getfield 59, 3, 0, 0, 7, 30, 0), none, none,
  some (.bipush 64, 2, 64, 0, 0, 0, 0), none, some (.iload_n 1, 1, 0, 0, 1, 0, 0), some (.imul, 1, 0, 0, 0, 0, 0), some (.iload_n 2, 1, 0, 0, 2, 0, 0), some (.iadd, 1, 0, 0, 0, 0, 0),
  some (.iaload, 1, 0, 0, 0, 0, 0), some (.goto 5, 3, 0, 0, 42, 0, 0), none, none, some (.bipush (-101), 2, (-101), 0, 0, 0, 0), none,
  some (.ireturn, 1, 0, 0, 0, 0, 0)])
def zt_M_size : zm_M := (⟨"QuadricFlatsModel", "size", "(J)I"⟩, prog_9_method_83_code, 4, some .int, 1, true, 7, [
  some (.iconst 0, 1, 0, 0, 0, 0, 0), some (.istore_n 2, 1, 0, 0, 2, 0, 0), some (.iconst 0, 1, 0, 0, 0, 0, 0), some (.istore_n 3, 1, 0, 0, 3, 0, 0), some (.iload_n 3, 1, 0, 0, 3, 0, 0), some (.bipush 64, 2, 64, 0, 0, 0, 0),
  none, some (.if_icmp .ge 18, 3, 0, 0, 25, 0, 0), none, none, some (.iload_n 2, 1, 0, 0, 2, 0, 0), some (.lload_n 0, 1, 0, 0, 0, 0, 0),
  some (.iload_n 3, 1, 0, 0, 3, 0, 0), some (.lshr, 1, 0, 0, 0, 0, 0), some (.lconst 1, 1, 0, 1, 0, 0, 0), some (.land, 1, 0, 0, 0, 0, 0), some (.l2i, 1, 0, 0, 0, 0, 0), some (.iadd, 1, 0, 0, 0, 0, 0),
  some (.istore_n 2, 1, 0, 0, 2, 0, 0), some (.iinc 3 1, 3, 1, 0, 3, 0, 0), none, none, some (.goto (-18), 3, 0, 0, 4, 0, 0), none,
  none, some (.iload_n 2, 1, 0, 0, 2, 0, 0), some (.ireturn, 1, 0, 0, 0, 0, 0)])
def zt_M_wanted : zm_M := (⟨"QuadricFlatsModel", "wanted", "(I)I"⟩, prog_9_method_84_code, 2, some .int, 1, false, 7, [
  some (.iload_n 1, 1, 0, 0, 1, 0, 0), some (.ifCond .ne 10, 3, 0, 0, 11, 0, 0), none, none, some (.aload_n 0, 1, 0, 0, 0, 0, 0), some (.invokevirtual 294, 3, 0, 0, 148, 0, 7),
  none, none, some (.goto 7, 3, 0, 0, 15, 0, 0), none, none, some (.aload_n 0, 1, 0, 0, 0, 0, 0),
  some (.getfield 206, 3, 0, 0, 7, 10, 0), none, none, some (.ireturn, 1, 0, 0, 0, 0, 0)])
def zt_M_leftNow : zm_M := (⟨"QuadricFlatsModel", "leftNow", "(I)I"⟩, prog_9_method_85_code, 2, some .int, 1, false, 7, [
  some (.aload_n 0, 1, 0, 0, 0, 0, 0), some (.iload_n 1, 1, 0, 0, 1, 0, 0), some (.invokevirtual 323, 3, 0, 0, 186, 1, 7), none, none, some (.aload_n 0, 1, 0, 0, 0, 0, 0),
  some (.iload_n 1, 1, 0, 0, 1, 0, 0), some (.invokevirtual 313, 3, 0, 0, 178, 1, 7), none, none, some (.invokestatic 326, 3, 0, 0, 185, 1, 0), none,
  none, some (.isub, 1, 0, 0, 0, 0, 0), some (.ireturn, 1, 0, 0, 0, 0, 0)])
def zt_M_left : zm_M := (⟨"QuadricFlatsModel", "left", "(I)I"⟩, prog_9_method_86_code, 2, some .int, 1, false, 7, [
  some (.iload_n 1, 1, 0, 0, 1, 0, 0), some (.invokestatic 320, 3, 0, 0, 182, 1, 0), none, none, some (.ifCond .ne 6, 3, 0, 0, 10, 0, 0), none,
  none, some (.bipush (-102), 2, (-102), 0, 0, 0, 0), none, some (.ireturn, 1, 0, 0, 0, 0, 0), some (.aload_n 0, 1, 0, 0, 0, 0, 0), some (.invokevirtual 230, 3, 0, 0, 142, 0, 7),
  none, none, some (.ifCond .eq 11, 3, 0, 0, 25, 0, 0), none, none, some (.aload_n 0, 1, 0, 0, 0, 0, 0),
  some (.iload_n 1, 1, 0, 0, 1, 0, 0), some (.invokevirtual 330, 3, 0, 0, 187, 1, 7), none, none, some (.goto 5, 3, 0, 0, 27, 0, 0), none,
  none, some (.bipush (-103), 2, (-103), 0, 0, 0, 0), none, some (.ireturn, 1, 0, 0, 0, 0, 0)])
def zt_M_layCan : zm_M := (⟨"QuadricFlatsModel", "layCan", "(I)V"⟩, prog_9_method_87_code, 3, none, 1, false, 7, [
  some (.aload_n 0, 1, 0, 0, 0, 0, 0), some (.iload_n 1, 1, 0, 0, 1, 0, 0), some (.ifCond .ne 10, 3, 0, 0, 12, 0, 0), none, none, some (.aload_n 0, 1, 0, 0, 0, 0, 0),
  some (.getfield 206, 3, 0, 0, 7, 10, 0), none, none, some (.goto 7, 3, 0, 0, 16, 0, 0), none, none,
  some (.aload_n 0, 1, 0, 0, 0, 0, 0), some (.invokevirtual 294, 3, 0, 0, 148, 0, 7), none, none, some (.putfield 333, 3, 0, 0, 7, 31, 0), none,
  none, some (.iconst 0, 1, 0, 0, 0, 0, 0), some (.istore_n 2, 1, 0, 0, 2, 0, 0), some (.iload_n 2, 1, 0, 0, 2, 0, 0), some (.aload_n 0, 1, 0, 0, 0, 0, 0), some (.getfield 333, 3, 0, 0, 7, 31, 0),
  none, none, some (.if_icmp .ge 45, 3, 0, 0, 71, 0, 0), none, none, some (.aload_n 0, 1, 0, 0, 0, 0, 0),
  some (.getfield 66, 3, 0, 0, 7, 33, 0), none, none, some (.iload_n 2, 1, 0, 0, 2, 0, 0), some (.iload_n 1, 1, 0, 0, 1, 0, 0), some (.ifCond .ne 11, 3, 0, 0, 46, 0, 0),
  none, none, some (.aload_n 0, 1, 0, 0, 0, 0, 0), some (.iload_n 2, 1, 0, 0, 2, 0, 0), some (.invokevirtual 227, 3, 0, 0, 144, 1, 7), none,
  none, some (.goto 4, 3, 0, 0, 47, 0, 0), none, none, some (.iload_n 2, 1, 0, 0, 2, 0, 0), some (.iastore, 1, 0, 0, 0, 0, 0),
  some (.aload_n 0, 1, 0, 0, 0, 0, 0), some (.getfield 62, 3, 0, 0, 7, 32, 0), none, none, some (.iload_n 2, 1, 0, 0, 2, 0, 0), some (.aload_n 0, 1, 0, 0, 0, 0, 0),
  some (.iload_n 1, 1, 0, 0, 1, 0, 0), some (.aload_n 0, 1, 0, 0, 0, 0, 0), some (.getfield 66, 3, 0, 0, 7, 33, 0), none, none, some (.iload_n 2, 1, 0, 0, 2, 0, 0),
  some (.iaload, 1, 0, 0, 0, 0, 0), some (.invokevirtual 309, 3, 0, 0, 177, 2, 7), none, none, some (.lastore, 1, 0, 0, 0, 0, 0), some (.iinc 2 1, 3, 1, 0, 2, 0, 0),
  none, none, some (.goto (-47), 3, 0, 0, 21, 0, 0), none, none, some (.return_, 1, 0, 0, 0, 0, 0)])
def zt_M_firstMissing : zm_M := (⟨"QuadricFlatsModel", "firstMissing", "(J)I"⟩, prog_9_method_88_code, 3, some .int, 1, true, 7, [
  some (.iconst 0, 1, 0, 0, 0, 0, 0), some (.istore_n 2, 1, 0, 0, 2, 0, 0), some (.lload_n 0, 1, 0, 0, 0, 0, 0), some (.iload_n 2, 1, 0, 0, 2, 0, 0), some (.lshr, 1, 0, 0, 0, 0, 0), some (.lconst 1, 1, 0, 1, 0, 0, 0),
  some (.land, 1, 0, 0, 0, 0, 0), some (.lconst 1, 1, 0, 1, 0, 0, 0), some (.lcmp, 1, 0, 0, 0, 0, 0), some (.ifCond .ne 9, 3, 0, 0, 18, 0, 0), none, none,
  some (.iinc 2 1, 3, 1, 0, 2, 0, 0), none, none, some (.goto (-13), 3, 0, 0, 2, 0, 0), none, none,
  some (.iload_n 2, 1, 0, 0, 2, 0, 0), some (.ireturn, 1, 0, 0, 0, 0, 0)])
def zt_M_nextCan : zm_M := (⟨"QuadricFlatsModel", "nextCan", "(IJ)I"⟩, prog_9_method_89_code, 6, some .int, 2, false, 7, [
  some (.lload_n 2, 1, 0, 0, 2, 0, 0), some (.invokestatic 336, 3, 0, 0, 190, 1, 0), none, none, some (.istore 4, 2, 0, 0, 4, 0, 0), none,
  some (.iload_n 1, 1, 0, 0, 1, 0, 0), some (.istore 5, 2, 0, 0, 5, 0, 0), none, some (.iload 5, 2, 0, 0, 5, 0, 0), none, some (.aload_n 0, 1, 0, 0, 0, 0, 0),
  some (.getfield 333, 3, 0, 0, 7, 31, 0), none, none, some (.if_icmp .ge 40, 3, 0, 0, 55, 0, 0), none, none,
  some (.aload_n 0, 1, 0, 0, 0, 0, 0), some (.getfield 62, 3, 0, 0, 7, 32, 0), none, none, some (.iload 5, 2, 0, 0, 5, 0, 0), none,
  some (.laload, 1, 0, 0, 0, 0, 0), some (.lload_n 2, 1, 0, 0, 2, 0, 0), some (.land, 1, 0, 0, 0, 0, 0), some (.lconst 0, 1, 0, 0, 0, 0, 0), some (.lcmp, 1, 0, 0, 0, 0, 0), some (.ifCond .ne 20, 3, 0, 0, 49, 0, 0),
  none, none, some (.aload_n 0, 1, 0, 0, 0, 0, 0), some (.getfield 62, 3, 0, 0, 7, 32, 0), none, none,
  some (.iload 5, 2, 0, 0, 5, 0, 0), none, some (.laload, 1, 0, 0, 0, 0, 0), some (.iload 4, 2, 0, 0, 4, 0, 0), none, some (.lshr, 1, 0, 0, 0, 0, 0),
  some (.lconst 1, 1, 0, 1, 0, 0, 0), some (.land, 1, 0, 0, 0, 0, 0), some (.lconst 0, 1, 0, 0, 0, 0, 0), some (.lcmp, 1, 0, 0, 0, 0, 0), some (.ifCond .ne 9, 3, 0, 0, 55, 0, 0), none,
  none, some (.iinc 5 1, 3, 1, 0, 5, 0, 0), none, none, some (.goto (-43), 3, 0, 0, 9, 0, 0), none,
  none, some (.iload 5, 2, 0, 0, 5, 0, 0), none, some (.ireturn, 1, 0, 0, 0, 0, 0)])
def zt_M_waysFrom : zm_M := (⟨"QuadricFlatsModel", "waysFrom", "(JII)I"⟩, prog_9_method_90_code, 9, some .int, 3, false, 7, [
  some (.lconst 1, 1, 0, 1, 0, 0, 0), some (.iload_n 3, 1, 0, 0, 3, 0, 0), some (.lshl, 1, 0, 0, 0, 0, 0), some (.lconst 1, 1, 0, 1, 0, 0, 0), some (.lsub, 1, 0, 0, 0, 0, 0), some (.lstore 5, 2, 0, 0, 5, 0, 0),
  none, some (.lload_n 1, 1, 0, 0, 1, 0, 0), some (.lload 5, 2, 0, 0, 5, 0, 0), none, some (.lcmp, 1, 0, 0, 0, 0, 0), some (.ifCond .ne 5, 3, 0, 0, 16, 0, 0),
  none, none, some (.iconst 1, 1, 1, 0, 0, 0, 0), some (.ireturn, 1, 0, 0, 0, 0, 0), some (.iconst 0, 1, 0, 0, 0, 0, 0), some (.istore 7, 2, 0, 0, 7, 0, 0),
  none, some (.iconst 0, 1, 0, 0, 0, 0, 0), some (.istore 8, 2, 0, 0, 8, 0, 0), none, some (.aload_n 0, 1, 0, 0, 0, 0, 0), some (.getfield 72, 3, 0, 0, 7, 35, 0),
  none, none, some (.iconst 0, 1, 0, 0, 0, 0, 0), some (.lload_n 1, 1, 0, 0, 1, 0, 0), some (.lastore, 1, 0, 0, 0, 0, 0), some (.aload_n 0, 1, 0, 0, 0, 0, 0),
  some (.getfield 69, 3, 0, 0, 7, 34, 0), none, none, some (.iconst 0, 1, 0, 0, 0, 0, 0), some (.iconst (-1), 1, (-1), 0, 0, 0, 0), some (.iastore, 1, 0, 0, 0, 0, 0),
  some (.iload 8, 2, 0, 0, 8, 0, 0), none, some (.ifCond .lt 134, 3, 0, 0, 172, 0, 0), none, none, some (.iload 7, 2, 0, 0, 7, 0, 0),
  none, some (.iload 4, 2, 0, 0, 4, 0, 0), none, some (.if_icmp .ge 127, 3, 0, 0, 172, 0, 0), none, none,
  some (.aload_n 0, 1, 0, 0, 0, 0, 0), some (.getfield 69, 3, 0, 0, 7, 34, 0), none, none, some (.iload 8, 2, 0, 0, 8, 0, 0), none,
  some (.aload_n 0, 1, 0, 0, 0, 0, 0), some (.aload_n 0, 1, 0, 0, 0, 0, 0), some (.getfield 69, 3, 0, 0, 7, 34, 0), none, none, some (.iload 8, 2, 0, 0, 8, 0, 0),
  none, some (.iaload, 1, 0, 0, 0, 0, 0), some (.iconst 1, 1, 1, 0, 0, 0, 0), some (.iadd, 1, 0, 0, 0, 0, 0), some (.aload_n 0, 1, 0, 0, 0, 0, 0), some (.getfield 72, 3, 0, 0, 7, 35, 0),
  none, none, some (.iload 8, 2, 0, 0, 8, 0, 0), none, some (.laload, 1, 0, 0, 0, 0, 0), some (.invokevirtual 339, 3, 0, 0, 191, 2, 7),
  none, none, some (.iastore, 1, 0, 0, 0, 0, 0), some (.aload_n 0, 1, 0, 0, 0, 0, 0), some (.getfield 69, 3, 0, 0, 7, 34, 0), none,
  none, some (.iload 8, 2, 0, 0, 8, 0, 0), none, some (.iaload, 1, 0, 0, 0, 0, 0), some (.aload_n 0, 1, 0, 0, 0, 0, 0), some (.getfield 333, 3, 0, 0, 7, 31, 0),
  none, none, some (.if_icmp .ne 9, 3, 0, 0, 95, 0, 0), none, none, some (.iinc 8 (-1), 3, (-1), 0, 8, 0, 0),
  none, none, some (.goto (-56), 3, 0, 0, 36, 0, 0), none, none, some (.aload_n 0, 1, 0, 0, 0, 0, 0),
  some (.getfield 72, 3, 0, 0, 7, 35, 0), none, none, some (.iload 8, 2, 0, 0, 8, 0, 0), none, some (.laload, 1, 0, 0, 0, 0, 0),
  some (.aload_n 0, 1, 0, 0, 0, 0, 0), some (.getfield 62, 3, 0, 0, 7, 32, 0), none, none, some (.aload_n 0, 1, 0, 0, 0, 0, 0), some (.getfield 69, 3, 0, 0, 7, 34, 0),
  none, none, some (.iload 8, 2, 0, 0, 8, 0, 0), none, some (.iaload, 1, 0, 0, 0, 0, 0), some (.laload, 1, 0, 0, 0, 0, 0),
  some (.lor, 1, 0, 0, 0, 0, 0), some (.lload 5, 2, 0, 0, 5, 0, 0), none, some (.lcmp, 1, 0, 0, 0, 0, 0), some (.ifCond .ne 9, 3, 0, 0, 127, 0, 0), none,
  none, some (.iinc 7 1, 3, 1, 0, 7, 0, 0), none, none, some (.goto (-88), 3, 0, 0, 36, 0, 0), none,
  none, some (.aload_n 0, 1, 0, 0, 0, 0, 0), some (.getfield 72, 3, 0, 0, 7, 35, 0), none, none, some (.iload 8, 2, 0, 0, 8, 0, 0),
  none, some (.iconst 1, 1, 1, 0, 0, 0, 0), some (.iadd, 1, 0, 0, 0, 0, 0), some (.aload_n 0, 1, 0, 0, 0, 0, 0), some (.getfield 72, 3, 0, 0, 7, 35, 0), none,
  none, some (.iload 8, 2, 0, 0, 8, 0, 0), none, some (.laload, 1, 0, 0, 0, 0, 0), some (.aload_n 0, 1, 0, 0, 0, 0, 0), some (.getfield 62, 3, 0, 0, 7, 32, 0),
  none, none, some (.aload_n 0, 1, 0, 0, 0, 0, 0), some (.getfield 69, 3, 0, 0, 7, 34, 0), none, none,
  some (.iload 8, 2, 0, 0, 8, 0, 0), none, some (.iaload, 1, 0, 0, 0, 0, 0), some (.laload, 1, 0, 0, 0, 0, 0), some (.lor, 1, 0, 0, 0, 0, 0), some (.lastore, 1, 0, 0, 0, 0, 0),
  some (.aload_n 0, 1, 0, 0, 0, 0, 0), some (.getfield 69, 3, 0, 0, 7, 34, 0), none, none, some (.iload 8, 2, 0, 0, 8, 0, 0), none,
  some (.iconst 1, 1, 1, 0, 0, 0, 0), some (.iadd, 1, 0, 0, 0, 0, 0), some (.iconst (-1), 1, (-1), 0, 0, 0, 0), some (.iastore, 1, 0, 0, 0, 0, 0), some (.iinc 8 1, 3, 1, 0, 8, 0, 0), none,
  none, some (.goto (-133), 3, 0, 0, 36, 0, 0), none, none, some (.iload 7, 2, 0, 0, 7, 0, 0), none,
  some (.ireturn, 1, 0, 0, 0, 0, 0)])
def zt_M_finishNow : zm_M := (⟨"QuadricFlatsModel", "finishNow", "(I)I"⟩, prog_9_method_91_code, 7, some .int, 1, false, 7, [
  some (.aload_n 0, 1, 0, 0, 0, 0, 0), some (.iload_n 1, 1, 0, 0, 1, 0, 0), some (.invokevirtual 343, 3, 0, 0, 189, 1, 7), none, none, some (.aload_n 0, 1, 0, 0, 0, 0, 0),
  some (.iload_n 1, 1, 0, 0, 1, 0, 0), some (.invokevirtual 313, 3, 0, 0, 178, 1, 7), none, none, some (.lstore_n 2, 1, 0, 0, 2, 0, 0), some (.aload_n 0, 1, 0, 0, 0, 0, 0),
  some (.lload_n 2, 1, 0, 0, 2, 0, 0), some (.aload_n 0, 1, 0, 0, 0, 0, 0), some (.iload_n 1, 1, 0, 0, 1, 0, 0), some (.invokevirtual 323, 3, 0, 0, 186, 1, 7), none, none,
  some (.iconst 1, 1, 1, 0, 0, 0, 0), some (.invokevirtual 346, 3, 0, 0, 192, 3, 7), none, none, some (.ifCond .ne 5, 3, 0, 0, 27, 0, 0), none,
  none, some (.iconst (-1), 1, (-1), 0, 0, 0, 0), some (.ireturn, 1, 0, 0, 0, 0, 0), some (.iconst 0, 1, 0, 0, 0, 0, 0), some (.istore 4, 2, 0, 0, 4, 0, 0), none,
  some (.iconst 0, 1, 0, 0, 0, 0, 0), some (.istore 5, 2, 0, 0, 5, 0, 0), none, some (.iload 5, 2, 0, 0, 5, 0, 0), none, some (.aload_n 0, 1, 0, 0, 0, 0, 0),
  some (.getfield 333, 3, 0, 0, 7, 31, 0), none, none, some (.if_icmp .ge 103, 3, 0, 0, 142, 0, 0), none, none,
  some (.aload_n 0, 1, 0, 0, 0, 0, 0), some (.getfield 62, 3, 0, 0, 7, 32, 0), none, none, some (.iload 5, 2, 0, 0, 5, 0, 0), none,
  some (.laload, 1, 0, 0, 0, 0, 0), some (.lload_n 2, 1, 0, 0, 2, 0, 0), some (.land, 1, 0, 0, 0, 0, 0), some (.lconst 0, 1, 0, 0, 0, 0, 0), some (.lcmp, 1, 0, 0, 0, 0, 0), some (.ifCond .ne 29, 3, 0, 0, 82, 0, 0),
  none, none, some (.aload_n 0, 1, 0, 0, 0, 0, 0), some (.lload_n 2, 1, 0, 0, 2, 0, 0), some (.aload_n 0, 1, 0, 0, 0, 0, 0), some (.getfield 62, 3, 0, 0, 7, 32, 0),
  none, none, some (.iload 5, 2, 0, 0, 5, 0, 0), none, some (.laload, 1, 0, 0, 0, 0, 0), some (.lor, 1, 0, 0, 0, 0, 0),
  some (.aload_n 0, 1, 0, 0, 0, 0, 0), some (.iload_n 1, 1, 0, 0, 1, 0, 0), some (.invokevirtual 323, 3, 0, 0, 186, 1, 7), none, none, some (.iconst 1, 1, 1, 0, 0, 0, 0),
  some (.invokevirtual 346, 3, 0, 0, 192, 3, 7), none, none, some (.ifCond .le 7, 3, 0, 0, 82, 0, 0), none, none,
  some (.iconst 1, 1, 1, 0, 0, 0, 0), some (.goto 4, 3, 0, 0, 83, 0, 0), none, none, some (.iconst 0, 1, 0, 0, 0, 0, 0), some (.istore 6, 2, 0, 0, 6, 0, 0),
  none, some (.iload 6, 2, 0, 0, 6, 0, 0), none, some (.ifCond .eq 49, 3, 0, 0, 136, 0, 0), none, none,
  some (.lload_n 2, 1, 0, 0, 2, 0, 0), some (.aload_n 0, 1, 0, 0, 0, 0, 0), some (.getfield 62, 3, 0, 0, 7, 32, 0), none, none, some (.iload 5, 2, 0, 0, 5, 0, 0),
  none, some (.laload, 1, 0, 0, 0, 0, 0), some (.lor, 1, 0, 0, 0, 0, 0), some (.lstore_n 2, 1, 0, 0, 2, 0, 0), some (.aload_n 0, 1, 0, 0, 0, 0, 0), some (.getfield 59, 3, 0, 0, 7, 30, 0),
  none, none, some (.bipush 64, 2, 64, 0, 0, 0, 0), none, some (.iload_n 1, 1, 0, 0, 1, 0, 0), some (.imul, 1, 0, 0, 0, 0, 0),
  some (.aload_n 0, 1, 0, 0, 0, 0, 0), some (.getfield 56, 3, 0, 0, 7, 29, 0), none, none, some (.iload_n 1, 1, 0, 0, 1, 0, 0), some (.iaload, 1, 0, 0, 0, 0, 0),
  some (.iadd, 1, 0, 0, 0, 0, 0), some (.aload_n 0, 1, 0, 0, 0, 0, 0), some (.getfield 66, 3, 0, 0, 7, 33, 0), none, none, some (.iload 5, 2, 0, 0, 5, 0, 0),
  none, some (.iaload, 1, 0, 0, 0, 0, 0), some (.iastore, 1, 0, 0, 0, 0, 0), some (.aload_n 0, 1, 0, 0, 0, 0, 0), some (.getfield 56, 3, 0, 0, 7, 29, 0), none,
  none, some (.iload_n 1, 1, 0, 0, 1, 0, 0), some (.dup2, 1, 0, 0, 0, 0, 0), some (.iaload, 1, 0, 0, 0, 0, 0), some (.iconst 1, 1, 1, 0, 0, 0, 0), some (.iadd, 1, 0, 0, 0, 0, 0),
  some (.iastore, 1, 0, 0, 0, 0, 0), some (.iinc 4 1, 3, 1, 0, 4, 0, 0), none, none, some (.iinc 5 1, 3, 1, 0, 5, 0, 0), none,
  none, some (.goto (-106), 3, 0, 0, 33, 0, 0), none, none, some (.iload 4, 2, 0, 0, 4, 0, 0), none,
  some (.ireturn, 1, 0, 0, 0, 0, 0)])
def zt_M_finish : zm_M := (⟨"QuadricFlatsModel", "finish", "(I)I"⟩, prog_9_method_92_code, 2, some .int, 1, false, 7, [
  some (.iload_n 1, 1, 0, 0, 1, 0, 0), some (.invokestatic 320, 3, 0, 0, 182, 1, 0), none, none, some (.ifCond .ne 6, 3, 0, 0, 10, 0, 0), none,
  none, some (.bipush (-102), 2, (-102), 0, 0, 0, 0), none, some (.ireturn, 1, 0, 0, 0, 0, 0), some (.aload_n 0, 1, 0, 0, 0, 0, 0), some (.invokevirtual 230, 3, 0, 0, 142, 0, 7),
  none, none, some (.ifCond .eq 12, 3, 0, 0, 26, 0, 0), none, none, some (.aload_n 0, 1, 0, 0, 0, 0, 0),
  some (.getfield 350, 3, 0, 0, 7, 36, 0), none, none, some (.bipush 20, 2, 20, 0, 0, 0, 0), none, some (.if_icmp .ne 6, 3, 0, 0, 29, 0, 0),
  none, none, some (.bipush (-103), 2, (-103), 0, 0, 0, 0), none, some (.ireturn, 1, 0, 0, 0, 0, 0), some (.aload_n 0, 1, 0, 0, 0, 0, 0),
  some (.dup, 1, 0, 0, 0, 0, 0), some (.getfield 350, 3, 0, 0, 7, 36, 0), none, none, some (.iconst 1, 1, 1, 0, 0, 0, 0), some (.iadd, 1, 0, 0, 0, 0, 0),
  some (.putfield 350, 3, 0, 0, 7, 36, 0), none, none, some (.aload_n 0, 1, 0, 0, 0, 0, 0), some (.iload_n 1, 1, 0, 0, 1, 0, 0), some (.invokevirtual 353, 3, 0, 0, 193, 1, 7),
  none, none, some (.ireturn, 1, 0, 0, 0, 0, 0)])
def zt_M_ways : zm_M := (⟨"QuadricFlatsModel", "ways", "(I)I"⟩, prog_9_method_93_code, 2, some .int, 1, false, 7, [
  some (.iload_n 1, 1, 0, 0, 1, 0, 0), some (.invokestatic 320, 3, 0, 0, 182, 1, 0), none, none, some (.ifCond .ne 6, 3, 0, 0, 10, 0, 0), none,
  none, some (.bipush (-102), 2, (-102), 0, 0, 0, 0), none, some (.ireturn, 1, 0, 0, 0, 0, 0), some (.aload_n 0, 1, 0, 0, 0, 0, 0), some (.invokevirtual 230, 3, 0, 0, 142, 0, 7),
  none, none, some (.ifCond .eq 12, 3, 0, 0, 26, 0, 0), none, none, some (.aload_n 0, 1, 0, 0, 0, 0, 0),
  some (.getfield 356, 3, 0, 0, 7, 37, 0), none, none, some (.bipush 12, 2, 12, 0, 0, 0, 0), none, some (.if_icmp .ne 6, 3, 0, 0, 29, 0, 0),
  none, none, some (.bipush (-103), 2, (-103), 0, 0, 0, 0), none, some (.ireturn, 1, 0, 0, 0, 0, 0), some (.aload_n 0, 1, 0, 0, 0, 0, 0),
  some (.dup, 1, 0, 0, 0, 0, 0), some (.getfield 356, 3, 0, 0, 7, 37, 0), none, none, some (.iconst 1, 1, 1, 0, 0, 0, 0), some (.iadd, 1, 0, 0, 0, 0, 0),
  some (.putfield 356, 3, 0, 0, 7, 37, 0), none, none, some (.aload_n 0, 1, 0, 0, 0, 0, 0), some (.iload_n 1, 1, 0, 0, 1, 0, 0), some (.invokevirtual 343, 3, 0, 0, 189, 1, 7),
  none, none, some (.aload_n 0, 1, 0, 0, 0, 0, 0), some (.aload_n 0, 1, 0, 0, 0, 0, 0), some (.iload_n 1, 1, 0, 0, 1, 0, 0), some (.invokevirtual 313, 3, 0, 0, 178, 1, 7),
  none, none, some (.aload_n 0, 1, 0, 0, 0, 0, 0), some (.iload_n 1, 1, 0, 0, 1, 0, 0), some (.invokevirtual 323, 3, 0, 0, 186, 1, 7), none,
  none, some (.ldc_w 359, 3, 1073741824, 0, 0, 0, 0), none, none, some (.invokevirtual 346, 3, 0, 0, 192, 3, 7), none,
  none, some (.ireturn, 1, 0, 0, 0, 0, 0)])
def zt_M_put : zm_M := (⟨"QuadricFlatsModel", "put", "(III)I"⟩, prog_9_method_94_code, 5, some .int, 3, false, 7, [
  some (.aload_n 0, 1, 0, 0, 0, 0, 0), some (.iload_n 1, 1, 0, 0, 1, 0, 0), some (.invokevirtual 270, 3, 0, 0, 158, 1, 7), none, none, some (.ifCond .eq 11, 3, 0, 0, 16, 0, 0),
  none, none, some (.aload_n 0, 1, 0, 0, 0, 0, 0), some (.iload_n 2, 1, 0, 0, 2, 0, 0), some (.invokevirtual 270, 3, 0, 0, 158, 1, 7), none,
  none, some (.ifCond .ne 6, 3, 0, 0, 19, 0, 0), none, none, some (.bipush (-101), 2, (-101), 0, 0, 0, 0), none,
  some (.ireturn, 1, 0, 0, 0, 0, 0), some (.iload_n 3, 1, 0, 0, 3, 0, 0), some (.iconst 0, 1, 0, 0, 0, 0, 0), some (.aload_n 0, 1, 0, 0, 0, 0, 0), some (.getfield 123, 3, 0, 0, 7, 0, 0), none,
  none, some (.iconst 1, 1, 1, 0, 0, 0, 0), some (.isub, 1, 0, 0, 0, 0, 0), some (.invokestatic 84, 3, 0, 0, 107, 3, 0), none, none,
  some (.ifCond .ne 6, 3, 0, 0, 36, 0, 0), none, none, some (.bipush (-102), 2, (-102), 0, 0, 0, 0), none, some (.ireturn, 1, 0, 0, 0, 0, 0),
  some (.aload_n 0, 1, 0, 0, 0, 0, 0), some (.getfield 7, 3, 0, 0, 7, 2, 0), none, none, some (.iload_n 1, 1, 0, 0, 1, 0, 0), some (.iload_n 2, 1, 0, 0, 2, 0, 0),
  some (.invokestatic 273, 3, 0, 0, 159, 2, 0), none, none, some (.iaload, 1, 0, 0, 0, 0, 0), some (.istore 4, 2, 0, 0, 4, 0, 0), none,
  some (.aload_n 0, 1, 0, 0, 0, 0, 0), some (.getfield 7, 3, 0, 0, 7, 2, 0), none, none, some (.iload_n 1, 1, 0, 0, 1, 0, 0), some (.iload_n 2, 1, 0, 0, 2, 0, 0),
  some (.invokestatic 273, 3, 0, 0, 159, 2, 0), none, none, some (.iload_n 3, 1, 0, 0, 3, 0, 0), some (.iastore, 1, 0, 0, 0, 0, 0), some (.aload_n 0, 1, 0, 0, 0, 0, 0),
  some (.invokevirtual 135, 3, 0, 0, 140, 0, 7), none, none, some (.iload 4, 2, 0, 0, 4, 0, 0), none, some (.ireturn, 1, 0, 0, 0, 0, 0)])
def zt_M_beginImages : zm_M := (⟨"QuadricFlatsModel", "beginImages", "()V"⟩, prog_9_method_95_code, 2, none, 0, false, 7, [
  some (.iconst 0, 1, 0, 0, 0, 0, 0), some (.istore_n 1, 1, 0, 0, 1, 0, 0), some (.iload_n 1, 1, 0, 0, 1, 0, 0), some (.bipush 36, 2, 36, 0, 0, 0, 0), none, some (.if_icmp .ge 27, 3, 0, 0, 32, 0, 0),
  none, none, some (.aload_n 0, 1, 0, 0, 0, 0, 0), some (.getfield 75, 3, 0, 0, 7, 38, 0), none, none,
  some (.iload_n 1, 1, 0, 0, 1, 0, 0), some (.iload_n 1, 1, 0, 0, 1, 0, 0), some (.bipush 7, 2, 7, 0, 0, 0, 0), none, some (.irem, 1, 0, 0, 0, 0, 0), some (.ifCond .ne 7, 3, 0, 0, 24, 0, 0),
  none, none, some (.iconst 1, 1, 1, 0, 0, 0, 0), some (.goto 4, 3, 0, 0, 25, 0, 0), none, none,
  some (.iconst 0, 1, 0, 0, 0, 0, 0), some (.iastore, 1, 0, 0, 0, 0, 0), some (.iinc 1 1, 3, 1, 0, 1, 0, 0), none, none, some (.goto (-27), 3, 0, 0, 2, 0, 0),
  none, none, some (.return_, 1, 0, 0, 0, 0, 0)])
def zt_M_takeImage : zm_M := (⟨"QuadricFlatsModel", "takeImage", "(I[I)V"⟩, prog_9_method_96_code, 4, none, 2, false, 7, [
  some (.iconst 0, 1, 0, 0, 0, 0, 0), some (.istore_n 3, 1, 0, 0, 3, 0, 0), some (.iload_n 3, 1, 0, 0, 3, 0, 0), some (.bipush 6, 2, 6, 0, 0, 0, 0), none, some (.if_icmp .ge 23, 3, 0, 0, 28, 0, 0),
  none, none, some (.aload_n 2, 1, 0, 0, 2, 0, 0), some (.iload_n 3, 1, 0, 0, 3, 0, 0), some (.aload_n 0, 1, 0, 0, 0, 0, 0), some (.getfield 75, 3, 0, 0, 7, 38, 0),
  none, none, some (.bipush 6, 2, 6, 0, 0, 0, 0), none, some (.iload_n 1, 1, 0, 0, 1, 0, 0), some (.imul, 1, 0, 0, 0, 0, 0),
  some (.iload_n 3, 1, 0, 0, 3, 0, 0), some (.iadd, 1, 0, 0, 0, 0, 0), some (.iaload, 1, 0, 0, 0, 0, 0), some (.iastore, 1, 0, 0, 0, 0, 0), some (.iinc 3 1, 3, 1, 0, 3, 0, 0), none,
  none, some (.goto (-23), 3, 0, 0, 2, 0, 0), none, none, some (.return_, 1, 0, 0, 0, 0, 0)])
def zt_M_change : zm_M := (⟨"QuadricFlatsModel", "change", "()I"⟩, prog_9_method_97_code, 3, some .int, 0, false, 7, [
  some (.iconst 0, 1, 0, 0, 0, 0, 0), some (.istore_n 1, 1, 0, 0, 1, 0, 0), some (.iload_n 1, 1, 0, 0, 1, 0, 0), some (.aload_n 0, 1, 0, 0, 0, 0, 0), some (.getfield 126, 3, 0, 0, 7, 1, 0), none,
  none, some (.if_icmp .ge 82, 3, 0, 0, 89, 0, 0), none, none, some (.iload_n 1, 1, 0, 0, 1, 0, 0), some (.istore_n 2, 1, 0, 0, 2, 0, 0),
  some (.iload_n 2, 1, 0, 0, 2, 0, 0), some (.aload_n 0, 1, 0, 0, 0, 0, 0), some (.getfield 126, 3, 0, 0, 7, 1, 0), none, none, some (.if_icmp .ge 66, 3, 0, 0, 83, 0, 0),
  none, none, some (.aload_n 0, 1, 0, 0, 0, 0, 0), some (.iload_n 1, 1, 0, 0, 1, 0, 0), some (.aload_n 0, 1, 0, 0, 0, 0, 0), some (.getfield 35, 3, 0, 0, 7, 21, 0),
  none, none, some (.invokevirtual 360, 3, 0, 0, 198, 2, 7), none, none, some (.aload_n 0, 1, 0, 0, 0, 0, 0),
  some (.iload_n 2, 1, 0, 0, 2, 0, 0), some (.aload_n 0, 1, 0, 0, 0, 0, 0), some (.getfield 38, 3, 0, 0, 7, 22, 0), none, none, some (.invokevirtual 360, 3, 0, 0, 198, 2, 7),
  none, none, some (.aload_n 0, 1, 0, 0, 0, 0, 0), some (.getfield 78, 3, 0, 0, 7, 39, 0), none, none,
  some (.bipush 6, 2, 6, 0, 0, 0, 0), none, some (.iload_n 1, 1, 0, 0, 1, 0, 0), some (.imul, 1, 0, 0, 0, 0, 0), some (.iload_n 2, 1, 0, 0, 2, 0, 0), some (.iadd, 1, 0, 0, 0, 0, 0),
  some (.iload_n 1, 1, 0, 0, 1, 0, 0), some (.iload_n 2, 1, 0, 0, 2, 0, 0), some (.if_icmp .ne 14, 3, 0, 0, 64, 0, 0), none, none, some (.aload_n 0, 1, 0, 0, 0, 0, 0),
  some (.aload_n 0, 1, 0, 0, 0, 0, 0), some (.getfield 35, 3, 0, 0, 7, 21, 0), none, none, some (.invokevirtual 149, 3, 0, 0, 122, 1, 7), none,
  none, some (.goto 15, 3, 0, 0, 76, 0, 0), none, none, some (.aload_n 0, 1, 0, 0, 0, 0, 0), some (.aload_n 0, 1, 0, 0, 0, 0, 0),
  some (.getfield 35, 3, 0, 0, 7, 21, 0), none, none, some (.aload_n 0, 1, 0, 0, 0, 0, 0), some (.getfield 38, 3, 0, 0, 7, 22, 0), none,
  none, some (.invokevirtual 160, 3, 0, 0, 123, 2, 7), none, none, some (.iastore, 1, 0, 0, 0, 0, 0), some (.iinc 2 1, 3, 1, 0, 2, 0, 0),
  none, none, some (.goto (-68), 3, 0, 0, 12, 0, 0), none, none, some (.iinc 1 1, 3, 1, 0, 1, 0, 0),
  none, none, some (.goto (-84), 3, 0, 0, 2, 0, 0), none, none, some (.iconst 0, 1, 0, 0, 0, 0, 0),
  some (.istore_n 1, 1, 0, 0, 1, 0, 0), some (.iload_n 1, 1, 0, 0, 1, 0, 0), some (.bipush 36, 2, 36, 0, 0, 0, 0), none, some (.if_icmp .ge 21, 3, 0, 0, 115, 0, 0), none,
  none, some (.aload_n 0, 1, 0, 0, 0, 0, 0), some (.getfield 7, 3, 0, 0, 7, 2, 0), none, none, some (.iload_n 1, 1, 0, 0, 1, 0, 0),
  some (.aload_n 0, 1, 0, 0, 0, 0, 0), some (.getfield 78, 3, 0, 0, 7, 39, 0), none, none, some (.iload_n 1, 1, 0, 0, 1, 0, 0), some (.iaload, 1, 0, 0, 0, 0, 0),
  some (.iastore, 1, 0, 0, 0, 0, 0), some (.iinc 1 1, 3, 1, 0, 1, 0, 0), none, none, some (.goto (-21), 3, 0, 0, 91, 0, 0), none,
  none, some (.aload_n 0, 1, 0, 0, 0, 0, 0), some (.invokevirtual 135, 3, 0, 0, 140, 0, 7), none, none, some (.aload_n 0, 1, 0, 0, 0, 0, 0),
  some (.getfield 206, 3, 0, 0, 7, 10, 0), none, none, some (.ireturn, 1, 0, 0, 0, 0, 0)])
def zt_M_swap : zm_M := (⟨"QuadricFlatsModel", "swap", "(II)I"⟩, prog_9_method_98_code, 3, some .int, 2, false, 7, [
  some (.aload_n 0, 1, 0, 0, 0, 0, 0), some (.iload_n 1, 1, 0, 0, 1, 0, 0), some (.invokevirtual 270, 3, 0, 0, 158, 1, 7), none, none, some (.ifCond .eq 16, 3, 0, 0, 21, 0, 0),
  none, none, some (.aload_n 0, 1, 0, 0, 0, 0, 0), some (.iload_n 2, 1, 0, 0, 2, 0, 0), some (.invokevirtual 270, 3, 0, 0, 158, 1, 7), none,
  none, some (.ifCond .eq 8, 3, 0, 0, 21, 0, 0), none, none, some (.iload_n 1, 1, 0, 0, 1, 0, 0), some (.iload_n 2, 1, 0, 0, 2, 0, 0),
  some (.if_icmp .ne 6, 3, 0, 0, 24, 0, 0), none, none, some (.bipush (-101), 2, (-101), 0, 0, 0, 0), none, some (.ireturn, 1, 0, 0, 0, 0, 0),
  some (.aload_n 0, 1, 0, 0, 0, 0, 0), some (.invokevirtual 363, 3, 0, 0, 197, 0, 7), none, none, some (.aload_n 0, 1, 0, 0, 0, 0, 0), some (.getfield 75, 3, 0, 0, 7, 38, 0),
  none, none, some (.bipush 7, 2, 7, 0, 0, 0, 0), none, some (.iload_n 1, 1, 0, 0, 1, 0, 0), some (.imul, 1, 0, 0, 0, 0, 0),
  some (.iconst 0, 1, 0, 0, 0, 0, 0), some (.iastore, 1, 0, 0, 0, 0, 0), some (.aload_n 0, 1, 0, 0, 0, 0, 0), some (.getfield 75, 3, 0, 0, 7, 38, 0), none, none,
  some (.bipush 7, 2, 7, 0, 0, 0, 0), none, some (.iload_n 2, 1, 0, 0, 2, 0, 0), some (.imul, 1, 0, 0, 0, 0, 0), some (.iconst 0, 1, 0, 0, 0, 0, 0), some (.iastore, 1, 0, 0, 0, 0, 0),
  some (.aload_n 0, 1, 0, 0, 0, 0, 0), some (.getfield 75, 3, 0, 0, 7, 38, 0), none, none, some (.bipush 6, 2, 6, 0, 0, 0, 0), none,
  some (.iload_n 1, 1, 0, 0, 1, 0, 0), some (.imul, 1, 0, 0, 0, 0, 0), some (.iload_n 2, 1, 0, 0, 2, 0, 0), some (.iadd, 1, 0, 0, 0, 0, 0), some (.iconst 1, 1, 1, 0, 0, 0, 0), some (.iastore, 1, 0, 0, 0, 0, 0),
  some (.aload_n 0, 1, 0, 0, 0, 0, 0), some (.getfield 75, 3, 0, 0, 7, 38, 0), none, none, some (.bipush 6, 2, 6, 0, 0, 0, 0), none,
  some (.iload_n 2, 1, 0, 0, 2, 0, 0), some (.imul, 1, 0, 0, 0, 0, 0), some (.iload_n 1, 1, 0, 0, 1, 0, 0), some (.iadd, 1, 0, 0, 0, 0, 0), some (.iconst 1, 1, 1, 0, 0, 0, 0), some (.iastore, 1, 0, 0, 0, 0, 0),
  some (.aload_n 0, 1, 0, 0, 0, 0, 0), some (.invokevirtual 366, 3, 0, 0, 199, 0, 7), none, none, some (.ireturn, 1, 0, 0, 0, 0, 0)])
def zt_M_plus : zm_M := (⟨"QuadricFlatsModel", "plus", "(III)I"⟩, prog_9_method_99_code, 4, some .int, 3, false, 7, [
  some (.aload_n 0, 1, 0, 0, 0, 0, 0), some (.iload_n 1, 1, 0, 0, 1, 0, 0), some (.invokevirtual 270, 3, 0, 0, 158, 1, 7), none, none, some (.ifCond .eq 16, 3, 0, 0, 21, 0, 0),
  none, none, some (.aload_n 0, 1, 0, 0, 0, 0, 0), some (.iload_n 2, 1, 0, 0, 2, 0, 0), some (.invokevirtual 270, 3, 0, 0, 158, 1, 7), none,
  none, some (.ifCond .eq 8, 3, 0, 0, 21, 0, 0), none, none, some (.iload_n 1, 1, 0, 0, 1, 0, 0), some (.iload_n 2, 1, 0, 0, 2, 0, 0),
  some (.if_icmp .ne 6, 3, 0, 0, 24, 0, 0), none, none, some (.bipush (-101), 2, (-101), 0, 0, 0, 0), none, some (.ireturn, 1, 0, 0, 0, 0, 0),
  some (.iload_n 3, 1, 0, 0, 3, 0, 0), some (.iconst 0, 1, 0, 0, 0, 0, 0), some (.aload_n 0, 1, 0, 0, 0, 0, 0), some (.getfield 123, 3, 0, 0, 7, 0, 0), none, none,
  some (.iconst 1, 1, 1, 0, 0, 0, 0), some (.isub, 1, 0, 0, 0, 0, 0), some (.invokestatic 84, 3, 0, 0, 107, 3, 0), none, none, some (.ifCond .ne 6, 3, 0, 0, 41, 0, 0),
  none, none, some (.bipush (-102), 2, (-102), 0, 0, 0, 0), none, some (.ireturn, 1, 0, 0, 0, 0, 0), some (.aload_n 0, 1, 0, 0, 0, 0, 0),
  some (.invokevirtual 363, 3, 0, 0, 197, 0, 7), none, none, some (.aload_n 0, 1, 0, 0, 0, 0, 0), some (.getfield 75, 3, 0, 0, 7, 38, 0), none,
  none, some (.bipush 6, 2, 6, 0, 0, 0, 0), none, some (.iload_n 2, 1, 0, 0, 2, 0, 0), some (.imul, 1, 0, 0, 0, 0, 0), some (.iload_n 1, 1, 0, 0, 1, 0, 0),
  some (.iadd, 1, 0, 0, 0, 0, 0), some (.iload_n 3, 1, 0, 0, 3, 0, 0), some (.iastore, 1, 0, 0, 0, 0, 0), some (.aload_n 0, 1, 0, 0, 0, 0, 0), some (.invokevirtual 366, 3, 0, 0, 199, 0, 7), none,
  none, some (.ireturn, 1, 0, 0, 0, 0, 0)])
def zt_M_scale : zm_M := (⟨"QuadricFlatsModel", "scale", "(II)I"⟩, prog_9_method_100_code, 3, some .int, 2, false, 7, [
  some (.aload_n 0, 1, 0, 0, 0, 0, 0), some (.iload_n 1, 1, 0, 0, 1, 0, 0), some (.invokevirtual 270, 3, 0, 0, 158, 1, 7), none, none, some (.ifCond .ne 6, 3, 0, 0, 11, 0, 0),
  none, none, some (.bipush (-101), 2, (-101), 0, 0, 0, 0), none, some (.ireturn, 1, 0, 0, 0, 0, 0), some (.iload_n 2, 1, 0, 0, 2, 0, 0),
  some (.iconst 1, 1, 1, 0, 0, 0, 0), some (.aload_n 0, 1, 0, 0, 0, 0, 0), some (.getfield 123, 3, 0, 0, 7, 0, 0), none, none, some (.iconst 1, 1, 1, 0, 0, 0, 0),
  some (.isub, 1, 0, 0, 0, 0, 0), some (.invokestatic 84, 3, 0, 0, 107, 3, 0), none, none, some (.ifCond .ne 6, 3, 0, 0, 28, 0, 0), none,
  none, some (.bipush (-102), 2, (-102), 0, 0, 0, 0), none, some (.ireturn, 1, 0, 0, 0, 0, 0), some (.aload_n 0, 1, 0, 0, 0, 0, 0), some (.invokevirtual 363, 3, 0, 0, 197, 0, 7),
  none, none, some (.aload_n 0, 1, 0, 0, 0, 0, 0), some (.getfield 75, 3, 0, 0, 7, 38, 0), none, none,
  some (.bipush 7, 2, 7, 0, 0, 0, 0), none, some (.iload_n 1, 1, 0, 0, 1, 0, 0), some (.imul, 1, 0, 0, 0, 0, 0), some (.iload_n 2, 1, 0, 0, 2, 0, 0), some (.iastore, 1, 0, 0, 0, 0, 0),
  some (.aload_n 0, 1, 0, 0, 0, 0, 0), some (.invokevirtual 366, 3, 0, 0, 199, 0, 7), none, none, some (.ireturn, 1, 0, 0, 0, 0, 0)])
def zt_M_times : zm_M := (⟨"QuadricFlatsModel", "times", "(I)I"⟩, prog_9_method_101_code, 3, some .int, 1, false, 7, [
  some (.aload_n 0, 1, 0, 0, 0, 0, 0), some (.invokevirtual 264, 3, 0, 0, 141, 0, 7), none, none, some (.ifCond .ne 6, 3, 0, 0, 10, 0, 0), none,
  none, some (.bipush (-103), 2, (-103), 0, 0, 0, 0), none, some (.ireturn, 1, 0, 0, 0, 0, 0), some (.iload_n 1, 1, 0, 0, 1, 0, 0), some (.iconst 1, 1, 1, 0, 0, 0, 0),
  some (.aload_n 0, 1, 0, 0, 0, 0, 0), some (.getfield 123, 3, 0, 0, 7, 0, 0), none, none, some (.iconst 1, 1, 1, 0, 0, 0, 0), some (.isub, 1, 0, 0, 0, 0, 0),
  some (.invokestatic 84, 3, 0, 0, 107, 3, 0), none, none, some (.ifCond .ne 6, 3, 0, 0, 27, 0, 0), none, none,
  some (.bipush (-102), 2, (-102), 0, 0, 0, 0), none, some (.ireturn, 1, 0, 0, 0, 0, 0), some (.iconst 0, 1, 0, 0, 0, 0, 0), some (.istore_n 2, 1, 0, 0, 2, 0, 0), some (.iload_n 2, 1, 0, 0, 2, 0, 0),
  some (.bipush 36, 2, 36, 0, 0, 0, 0), none, some (.if_icmp .ge 28, 3, 0, 0, 60, 0, 0), none, none, some (.aload_n 0, 1, 0, 0, 0, 0, 0),
  some (.getfield 7, 3, 0, 0, 7, 2, 0), none, none, some (.iload_n 2, 1, 0, 0, 2, 0, 0), some (.aload_n 0, 1, 0, 0, 0, 0, 0), some (.getfield 7, 3, 0, 0, 7, 2, 0),
  none, none, some (.iload_n 2, 1, 0, 0, 2, 0, 0), some (.iaload, 1, 0, 0, 0, 0, 0), some (.iload_n 1, 1, 0, 0, 1, 0, 0), some (.imul, 1, 0, 0, 0, 0, 0),
  some (.aload_n 0, 1, 0, 0, 0, 0, 0), some (.getfield 123, 3, 0, 0, 7, 0, 0), none, none, some (.irem, 1, 0, 0, 0, 0, 0), some (.iastore, 1, 0, 0, 0, 0, 0),
  some (.iinc 2 1, 3, 1, 0, 2, 0, 0), none, none, some (.goto (-28), 3, 0, 0, 29, 0, 0), none, none,
  some (.aload_n 0, 1, 0, 0, 0, 0, 0), some (.invokevirtual 135, 3, 0, 0, 140, 0, 7), none, none, some (.aload_n 0, 1, 0, 0, 0, 0, 0), some (.invokevirtual 261, 3, 0, 0, 155, 0, 7),
  none, none, some (.ireturn, 1, 0, 0, 0, 0, 0)])
def zt_M_image : zm_M := (⟨"QuadricFlatsModel", "image", "()I"⟩, prog_9_method_102_code, 2, some .int, 0, false, 7, [
  some (.aload_n 0, 1, 0, 0, 0, 0, 0), some (.invokevirtual 264, 3, 0, 0, 141, 0, 7), none, none, some (.ifCond .ne 6, 3, 0, 0, 10, 0, 0), none,
  none, some (.bipush (-103), 2, (-103), 0, 0, 0, 0), none, some (.ireturn, 1, 0, 0, 0, 0, 0), some (.aload_n 0, 1, 0, 0, 0, 0, 0), some (.aload_n 0, 1, 0, 0, 0, 0, 0),
  some (.getfield 123, 3, 0, 0, 7, 0, 0), none, none, some (.putfield 369, 3, 0, 0, 7, 40, 0), none, none,
  some (.aload_n 0, 1, 0, 0, 0, 0, 0), some (.aload_n 0, 1, 0, 0, 0, 0, 0), some (.getfield 126, 3, 0, 0, 7, 1, 0), none, none, some (.putfield 372, 3, 0, 0, 7, 41, 0),
  none, none, some (.aload_n 0, 1, 0, 0, 0, 0, 0), some (.aload_n 0, 1, 0, 0, 0, 0, 0), some (.invokevirtual 258, 3, 0, 0, 150, 0, 7), none,
  none, some (.putfield 375, 3, 0, 0, 7, 42, 0), none, none, some (.aload_n 0, 1, 0, 0, 0, 0, 0), some (.aload_n 0, 1, 0, 0, 0, 0, 0),
  some (.invokevirtual 261, 3, 0, 0, 155, 0, 7), none, none, some (.putfield 378, 3, 0, 0, 7, 43, 0), none, none,
  some (.iconst 0, 1, 0, 0, 0, 0, 0), some (.istore_n 1, 1, 0, 0, 1, 0, 0), some (.iload_n 1, 1, 0, 0, 1, 0, 0), some (.bipush 36, 2, 36, 0, 0, 0, 0), none, some (.if_icmp .ge 21, 3, 0, 0, 68, 0, 0),
  none, none, some (.aload_n 0, 1, 0, 0, 0, 0, 0), some (.getfield 81, 3, 0, 0, 7, 44, 0), none, none,
  some (.iload_n 1, 1, 0, 0, 1, 0, 0), some (.aload_n 0, 1, 0, 0, 0, 0, 0), some (.getfield 7, 3, 0, 0, 7, 2, 0), none, none, some (.iload_n 1, 1, 0, 0, 1, 0, 0),
  some (.iaload, 1, 0, 0, 0, 0, 0), some (.iastore, 1, 0, 0, 0, 0, 0), some (.iinc 1 1, 3, 1, 0, 1, 0, 0), none, none, some (.goto (-21), 3, 0, 0, 44, 0, 0),
  none, none, some (.aload_n 0, 1, 0, 0, 0, 0, 0), some (.getfield 138, 3, 0, 0, 7, 6, 0), none, none,
  some (.ireturn, 1, 0, 0, 0, 0, 0)])
def zt_M_restore : zm_M := (⟨"QuadricFlatsModel", "restore", "()I"⟩, prog_9_method_103_code, 2, some .int, 0, false, 7, [
  some (.aload_n 0, 1, 0, 0, 0, 0, 0), some (.getfield 369, 3, 0, 0, 7, 40, 0), none, none, some (.ifCond .ne 6, 3, 0, 0, 10, 0, 0), none,
  none, some (.bipush (-103), 2, (-103), 0, 0, 0, 0), none, some (.ireturn, 1, 0, 0, 0, 0, 0), some (.aload_n 0, 1, 0, 0, 0, 0, 0), some (.aload_n 0, 1, 0, 0, 0, 0, 0),
  some (.getfield 369, 3, 0, 0, 7, 40, 0), none, none, some (.putfield 123, 3, 0, 0, 7, 0, 0), none, none,
  some (.aload_n 0, 1, 0, 0, 0, 0, 0), some (.aload_n 0, 1, 0, 0, 0, 0, 0), some (.getfield 372, 3, 0, 0, 7, 41, 0), none, none, some (.putfield 126, 3, 0, 0, 7, 1, 0),
  none, none, some (.iconst 0, 1, 0, 0, 0, 0, 0), some (.istore_n 1, 1, 0, 0, 1, 0, 0), some (.iload_n 1, 1, 0, 0, 1, 0, 0), some (.bipush 36, 2, 36, 0, 0, 0, 0),
  none, some (.if_icmp .ge 21, 3, 0, 0, 52, 0, 0), none, none, some (.aload_n 0, 1, 0, 0, 0, 0, 0), some (.getfield 7, 3, 0, 0, 7, 2, 0),
  none, none, some (.iload_n 1, 1, 0, 0, 1, 0, 0), some (.aload_n 0, 1, 0, 0, 0, 0, 0), some (.getfield 81, 3, 0, 0, 7, 44, 0), none,
  none, some (.iload_n 1, 1, 0, 0, 1, 0, 0), some (.iaload, 1, 0, 0, 0, 0, 0), some (.iastore, 1, 0, 0, 0, 0, 0), some (.iinc 1 1, 3, 1, 0, 1, 0, 0), none,
  none, some (.goto (-21), 3, 0, 0, 28, 0, 0), none, none, some (.aload_n 0, 1, 0, 0, 0, 0, 0), some (.invokevirtual 132, 3, 0, 0, 120, 0, 7),
  none, none, some (.aload_n 0, 1, 0, 0, 0, 0, 0), some (.invokevirtual 135, 3, 0, 0, 140, 0, 7), none, none,
  some (.aload_n 0, 1, 0, 0, 0, 0, 0), some (.getfield 138, 3, 0, 0, 7, 6, 0), none, none, some (.ireturn, 1, 0, 0, 0, 0, 0)])
def zt_M_like : zm_M := (⟨"QuadricFlatsModel", "like", "()I"⟩, prog_9_method_104_code, 2, some .int, 0, false, 7, [
  some (.aload_n 0, 1, 0, 0, 0, 0, 0), some (.invokevirtual 264, 3, 0, 0, 141, 0, 7), none, none, some (.ifCond .eq 10, 3, 0, 0, 14, 0, 0), none,
  none, some (.aload_n 0, 1, 0, 0, 0, 0, 0), some (.getfield 369, 3, 0, 0, 7, 40, 0), none, none, some (.ifCond .ne 6, 3, 0, 0, 17, 0, 0),
  none, none, some (.bipush (-103), 2, (-103), 0, 0, 0, 0), none, some (.ireturn, 1, 0, 0, 0, 0, 0), some (.aload_n 0, 1, 0, 0, 0, 0, 0),
  some (.getfield 209, 3, 0, 0, 7, 11, 0), none, none, some (.ifCond .ne 37, 3, 0, 0, 58, 0, 0), none, none,
  some (.aload_n 0, 1, 0, 0, 0, 0, 0), some (.getfield 375, 3, 0, 0, 7, 42, 0), none, none, some (.iconst 3, 1, 3, 0, 0, 0, 0), some (.if_icmp .eq 29, 3, 0, 0, 58, 0, 0),
  none, none, some (.aload_n 0, 1, 0, 0, 0, 0, 0), some (.getfield 123, 3, 0, 0, 7, 0, 0), none, none,
  some (.aload_n 0, 1, 0, 0, 0, 0, 0), some (.getfield 369, 3, 0, 0, 7, 40, 0), none, none, some (.if_icmp .ne 18, 3, 0, 0, 58, 0, 0), none,
  none, some (.aload_n 0, 1, 0, 0, 0, 0, 0), some (.getfield 126, 3, 0, 0, 7, 1, 0), none, none, some (.aload_n 0, 1, 0, 0, 0, 0, 0),
  some (.getfield 372, 3, 0, 0, 7, 41, 0), none, none, some (.if_icmp .ne 7, 3, 0, 0, 58, 0, 0), none, none,
  some (.iconst 1, 1, 1, 0, 0, 0, 0), some (.goto 4, 3, 0, 0, 59, 0, 0), none, none, some (.iconst 0, 1, 0, 0, 0, 0, 0), some (.istore_n 1, 1, 0, 0, 1, 0, 0),
  some (.iload_n 1, 1, 0, 0, 1, 0, 0), some (.ifCond .eq 29, 3, 0, 0, 90, 0, 0), none, none, some (.aload_n 0, 1, 0, 0, 0, 0, 0), some (.invokevirtual 258, 3, 0, 0, 150, 0, 7),
  none, none, some (.aload_n 0, 1, 0, 0, 0, 0, 0), some (.getfield 375, 3, 0, 0, 7, 42, 0), none, none,
  some (.if_icmp .ne 18, 3, 0, 0, 90, 0, 0), none, none, some (.aload_n 0, 1, 0, 0, 0, 0, 0), some (.invokevirtual 261, 3, 0, 0, 155, 0, 7), none,
  none, some (.aload_n 0, 1, 0, 0, 0, 0, 0), some (.getfield 378, 3, 0, 0, 7, 43, 0), none, none, some (.if_icmp .ne 7, 3, 0, 0, 90, 0, 0),
  none, none, some (.iconst 1, 1, 1, 0, 0, 0, 0), some (.goto 4, 3, 0, 0, 91, 0, 0), none, none,
  some (.iconst 0, 1, 0, 0, 0, 0, 0), some (.ireturn, 1, 0, 0, 0, 0, 0)])
def zt_M_drawOf : zm_M := (⟨"QuadricFlatsModel", "drawOf", "(I)I"⟩, prog_9_method_105_code, 2, some .int, 1, false, 7, [
  some (.aload_n 0, 1, 0, 0, 0, 0, 0), some (.ldc2_w 381, 3, 0, 1103515245, 0, 0, 0), none, none, some (.aload_n 0, 1, 0, 0, 0, 0, 0), some (.getfield 383, 3, 0, 0, 7, 45, 0),
  none, none, some (.lmul, 1, 0, 0, 0, 0, 0), some (.ldc2_w 387, 3, 0, 12345, 0, 0, 0), none, none,
  some (.ladd, 1, 0, 0, 0, 0, 0), some (.ldc2_w 389, 3, 0, 2147483648, 0, 0, 0), none, none, some (.lrem, 1, 0, 0, 0, 0, 0), some (.putfield 383, 3, 0, 0, 7, 45, 1),
  none, none, some (.aload_n 0, 1, 0, 0, 0, 0, 0), some (.getfield 383, 3, 0, 0, 7, 45, 0), none, none,
  some (.ldc2_w 391, 3, 0, 65536, 0, 0, 0), none, none, some (.ldiv, 1, 0, 0, 0, 0, 0), some (.iload_n 1, 1, 0, 0, 1, 0, 0), some (.i2l, 1, 0, 0, 0, 0, 0),
  some (.lrem, 1, 0, 0, 0, 0, 0), some (.l2i, 1, 0, 0, 0, 0, 0), some (.ireturn, 1, 0, 0, 0, 0, 0)])
def zt_M_drawnNow : zm_M := (⟨"QuadricFlatsModel", "drawnNow", "(III)I"⟩, prog_9_method_106_code, 9, some .int, 3, false, 7, [
  some (.aload_n 0, 1, 0, 0, 0, 0, 0), some (.iload_n 2, 1, 0, 0, 2, 0, 0), some (.i2l, 1, 0, 0, 0, 0, 0), some (.putfield 383, 3, 0, 0, 7, 45, 1), none, none,
  some (.iconst 0, 1, 0, 0, 0, 0, 0), some (.istore 4, 2, 0, 0, 4, 0, 0), none, some (.iconst 0, 1, 0, 0, 0, 0, 0), some (.istore 5, 2, 0, 0, 5, 0, 0), none,
  some (.iconst 0, 1, 0, 0, 0, 0, 0), some (.istore 6, 2, 0, 0, 6, 0, 0), none, some (.iload 6, 2, 0, 0, 6, 0, 0), none, some (.iload_n 1, 1, 0, 0, 1, 0, 0),
  some (.if_icmp .ge 86, 3, 0, 0, 104, 0, 0), none, none, some (.aload_n 0, 1, 0, 0, 0, 0, 0), some (.aload_n 0, 1, 0, 0, 0, 0, 0), some (.getfield 138, 3, 0, 0, 7, 6, 0),
  none, none, some (.invokevirtual 393, 3, 0, 0, 207, 1, 7), none, none, some (.istore 7, 2, 0, 0, 7, 0, 0),
  none, some (.aload_n 0, 1, 0, 0, 0, 0, 0), some (.aload_n 0, 1, 0, 0, 0, 0, 0), some (.getfield 138, 3, 0, 0, 7, 6, 0), none, none,
  some (.invokevirtual 393, 3, 0, 0, 207, 1, 7), none, none, some (.istore 8, 2, 0, 0, 8, 0, 0), none, some (.iload 4, 2, 0, 0, 4, 0, 0),
  none, some (.aload_n 0, 1, 0, 0, 0, 0, 0), some (.getfield 22, 3, 0, 0, 7, 9, 0), none, none, some (.iload 7, 2, 0, 0, 7, 0, 0),
  none, some (.baload, 1, 0, 0, 0, 0, 0), some (.ifCond .eq 7, 3, 0, 0, 57, 0, 0), none, none, some (.iconst 1, 1, 1, 0, 0, 0, 0),
  some (.goto 4, 3, 0, 0, 58, 0, 0), none, none, some (.iconst 0, 1, 0, 0, 0, 0, 0), some (.aload_n 0, 1, 0, 0, 0, 0, 0), some (.getfield 22, 3, 0, 0, 7, 9, 0),
  none, none, some (.iload 8, 2, 0, 0, 8, 0, 0), none, some (.baload, 1, 0, 0, 0, 0, 0), some (.ifCond .eq 7, 3, 0, 0, 72, 0, 0),
  none, none, some (.iconst 1, 1, 1, 0, 0, 0, 0), some (.goto 4, 3, 0, 0, 73, 0, 0), none, none,
  some (.iconst 0, 1, 0, 0, 0, 0, 0), some (.iadd, 1, 0, 0, 0, 0, 0), some (.iadd, 1, 0, 0, 0, 0, 0), some (.istore 4, 2, 0, 0, 4, 0, 0), none, some (.iload 5, 2, 0, 0, 5, 0, 0),
  none, some (.aload_n 0, 1, 0, 0, 0, 0, 0), some (.iload 7, 2, 0, 0, 7, 0, 0), none, some (.iload 8, 2, 0, 0, 8, 0, 0), none,
  some (.invokevirtual 279, 3, 0, 0, 128, 2, 7), none, none, some (.ifCond .eq 7, 3, 0, 0, 94, 0, 0), none, none,
  some (.iconst 1, 1, 1, 0, 0, 0, 0), some (.goto 4, 3, 0, 0, 95, 0, 0), none, none, some (.iconst 0, 1, 0, 0, 0, 0, 0), some (.iadd, 1, 0, 0, 0, 0, 0),
  some (.istore 5, 2, 0, 0, 5, 0, 0), none, some (.iinc 6 1, 3, 1, 0, 6, 0, 0), none, none, some (.goto (-86), 3, 0, 0, 15, 0, 0),
  none, none, some (.iload_n 3, 1, 0, 0, 3, 0, 0), some (.ifCond .ne 8, 3, 0, 0, 113, 0, 0), none, none,
  some (.iload 4, 2, 0, 0, 4, 0, 0), none, some (.goto 18, 3, 0, 0, 128, 0, 0), none, none, some (.iload_n 3, 1, 0, 0, 3, 0, 0),
  some (.iconst 1, 1, 1, 0, 0, 0, 0), some (.if_icmp .ne 8, 3, 0, 0, 123, 0, 0), none, none, some (.iload 5, 2, 0, 0, 5, 0, 0), none,
  some (.goto 8, 3, 0, 0, 128, 0, 0), none, none, some (.aload_n 0, 1, 0, 0, 0, 0, 0), some (.getfield 383, 3, 0, 0, 7, 45, 0), none,
  none, some (.l2i, 1, 0, 0, 0, 0, 0), some (.ireturn, 1, 0, 0, 0, 0, 0)])
def zt_M_drawn : zm_M := (⟨"QuadricFlatsModel", "drawn", "(III)I"⟩, prog_9_method_107_code, 4, some .int, 3, false, 7, [
  some (.iload_n 1, 1, 0, 0, 1, 0, 0), some (.iconst 1, 1, 1, 0, 0, 0, 0), some (.bipush 100, 2, 100, 0, 0, 0, 0), none, some (.invokestatic 84, 3, 0, 0, 107, 3, 0), none,
  none, some (.ifCond .eq 16, 3, 0, 0, 23, 0, 0), none, none, some (.iload_n 2, 1, 0, 0, 2, 0, 0), some (.ifCond .lt 12, 3, 0, 0, 23, 0, 0),
  none, none, some (.iload_n 3, 1, 0, 0, 3, 0, 0), some (.iconst 0, 1, 0, 0, 0, 0, 0), some (.iconst 2, 1, 2, 0, 0, 0, 0), some (.invokestatic 84, 3, 0, 0, 107, 3, 0),
  none, none, some (.ifCond .ne 6, 3, 0, 0, 26, 0, 0), none, none, some (.bipush (-102), 2, (-102), 0, 0, 0, 0),
  none, some (.ireturn, 1, 0, 0, 0, 0, 0), some (.aload_n 0, 1, 0, 0, 0, 0, 0), some (.invokevirtual 264, 3, 0, 0, 141, 0, 7), none, none,
  some (.ifCond .eq 13, 3, 0, 0, 43, 0, 0), none, none, some (.aload_n 0, 1, 0, 0, 0, 0, 0), some (.iload_n 1, 1, 0, 0, 1, 0, 0), some (.iload_n 2, 1, 0, 0, 2, 0, 0),
  some (.iload_n 3, 1, 0, 0, 3, 0, 0), some (.invokevirtual 396, 3, 0, 0, 208, 3, 7), none, none, some (.goto 5, 3, 0, 0, 45, 0, 0), none,
  none, some (.bipush (-103), 2, (-103), 0, 0, 0, 0), none, some (.ireturn, 1, 0, 0, 0, 0, 0)])
def zt_M_howMany : zm_M := (⟨"QuadricFlatsModel", "howMany", "(I)I"⟩, prog_9_method_108_code, 2, some .int, 1, false, 7, [
  some (.iload_n 1, 1, 0, 0, 1, 0, 0), some (.tableswitch 100 0 8 #[51, 56, 61, 66, 73, 80, 85, 90, 95], 51, 0, 0, 0, 0, 0), none, none, none, none,
  none, none, none, none, none, none,
  none, none, none, none, none, none,
  none, none, none, none, none, none,
  none, none, none, none, none, none,
  none, none, none, none, none, none,
  none, none, none, none, none, none,
  none, none, none, none, none, none,
  none, none, none, none, some (.aload_n 0, 1, 0, 0, 0, 0, 0), some (.getfield 138, 3, 0, 0, 7, 6, 0),
  none, none, some (.ireturn, 1, 0, 0, 0, 0, 0), some (.aload_n 0, 1, 0, 0, 0, 0, 0), some (.getfield 206, 3, 0, 0, 7, 10, 0), none,
  none, some (.ireturn, 1, 0, 0, 0, 0, 0), some (.aload_n 0, 1, 0, 0, 0, 0, 0), some (.invokevirtual 294, 3, 0, 0, 148, 0, 7), none, none,
  some (.ireturn, 1, 0, 0, 0, 0, 0), some (.aload_n 0, 1, 0, 0, 0, 0, 0), some (.getfield 56, 3, 0, 0, 7, 29, 0), none, none, some (.iconst 0, 1, 0, 0, 0, 0, 0),
  some (.iaload, 1, 0, 0, 0, 0, 0), some (.ireturn, 1, 0, 0, 0, 0, 0), some (.aload_n 0, 1, 0, 0, 0, 0, 0), some (.getfield 56, 3, 0, 0, 7, 29, 0), none, none,
  some (.iconst 1, 1, 1, 0, 0, 0, 0), some (.iaload, 1, 0, 0, 0, 0, 0), some (.ireturn, 1, 0, 0, 0, 0, 0), some (.aload_n 0, 1, 0, 0, 0, 0, 0), some (.getfield 88, 3, 0, 0, 7, 4, 0), none,
  none, some (.ireturn, 1, 0, 0, 0, 0, 0), some (.aload_n 0, 1, 0, 0, 0, 0, 0), some (.getfield 129, 3, 0, 0, 7, 3, 0), none, none,
  some (.ireturn, 1, 0, 0, 0, 0, 0), some (.aload_n 0, 1, 0, 0, 0, 0, 0), some (.getfield 350, 3, 0, 0, 7, 36, 0), none, none, some (.ireturn, 1, 0, 0, 0, 0, 0),
  some (.aload_n 0, 1, 0, 0, 0, 0, 0), some (.getfield 356, 3, 0, 0, 7, 37, 0), none, none, some (.ireturn, 1, 0, 0, 0, 0, 0), some (.bipush (-102), 2, (-102), 0, 0, 0, 0),
  none, some (.ireturn, 1, 0, 0, 0, 0, 0)])
def zt_M_count : zm_M := (⟨"QuadricFlatsModel", "count", "(I)I"⟩, prog_9_method_109_code, 2, some .int, 1, false, 7, [
  some (.aload_n 0, 1, 0, 0, 0, 0, 0), some (.iload_n 1, 1, 0, 0, 1, 0, 0), some (.invokevirtual 399, 3, 0, 0, 210, 1, 7), none, none, some (.ireturn, 1, 0, 0, 0, 0, 0)])
def zt_M_mixIn : zm_M := (⟨"QuadricFlatsModel", "mixIn", "(J)V"⟩, prog_9_method_110_code, 3, none, 1, false, 7, [
  some (.aload_n 0, 1, 0, 0, 0, 0, 0), some (.ldc2_w 402, 3, 0, 31, 0, 0, 0), none, none, some (.aload_n 0, 1, 0, 0, 0, 0, 0), some (.getfield 404, 3, 0, 0, 7, 46, 0),
  none, none, some (.lmul, 1, 0, 0, 0, 0, 0), some (.lload_n 1, 1, 0, 0, 1, 0, 0), some (.ladd, 1, 0, 0, 0, 0, 0), some (.putfield 404, 3, 0, 0, 7, 46, 1),
  none, none, some (.return_, 1, 0, 0, 0, 0, 0)])
def zt_M_mixFlats : zm_M := (⟨"QuadricFlatsModel", "mixFlats", "()V"⟩, prog_9_method_111_code, 3, none, 0, false, 7, [
  some (.iconst 1, 1, 1, 0, 0, 0, 0), some (.istore_n 1, 1, 0, 0, 1, 0, 0), some (.iload_n 1, 1, 0, 0, 1, 0, 0), some (.iconst 4, 1, 4, 0, 0, 0, 0), some (.if_icmp .ge 19, 3, 0, 0, 23, 0, 0), none,
  none, some (.aload_n 0, 1, 0, 0, 0, 0, 0), some (.aload_n 0, 1, 0, 0, 0, 0, 0), some (.iload_n 1, 1, 0, 0, 1, 0, 0), some (.invokevirtual 236, 3, 0, 0, 145, 1, 7), none,
  none, some (.i2l, 1, 0, 0, 0, 0, 0), some (.invokevirtual 407, 3, 0, 0, 212, 1, 7), none, none, some (.iinc 1 1, 3, 1, 0, 1, 0, 0),
  none, none, some (.goto (-18), 3, 0, 0, 2, 0, 0), none, none, some (.aload_n 0, 1, 0, 0, 0, 0, 0),
  some (.aload_n 0, 1, 0, 0, 0, 0, 0), some (.invokevirtual 233, 3, 0, 0, 143, 0, 7), none, none, some (.invokevirtual 239, 3, 0, 0, 146, 1, 7), none,
  none, some (.istore_n 1, 1, 0, 0, 1, 0, 0), some (.iconst 0, 1, 0, 0, 0, 0, 0), some (.istore_n 2, 1, 0, 0, 2, 0, 0), some (.iload_n 2, 1, 0, 0, 2, 0, 0), some (.aload_n 0, 1, 0, 0, 0, 0, 0),
  some (.invokevirtual 294, 3, 0, 0, 148, 0, 7), none, none, some (.iload_n 1, 1, 0, 0, 1, 0, 0), some (.imul, 1, 0, 0, 0, 0, 0), some (.if_icmp .ge 28, 3, 0, 0, 69, 0, 0),
  none, none, some (.aload_n 0, 1, 0, 0, 0, 0, 0), some (.aload_n 0, 1, 0, 0, 0, 0, 0), some (.aload_n 0, 1, 0, 0, 0, 0, 0), some (.invokevirtual 233, 3, 0, 0, 143, 0, 7),
  none, none, some (.iload_n 2, 1, 0, 0, 2, 0, 0), some (.iload_n 1, 1, 0, 0, 1, 0, 0), some (.idiv, 1, 0, 0, 0, 0, 0), some (.iload_n 2, 1, 0, 0, 2, 0, 0),
  some (.iload_n 1, 1, 0, 0, 1, 0, 0), some (.irem, 1, 0, 0, 0, 0, 0), some (.invokevirtual 242, 3, 0, 0, 147, 3, 7), none, none, some (.i2l, 1, 0, 0, 0, 0, 0),
  some (.invokevirtual 407, 3, 0, 0, 212, 1, 7), none, none, some (.iinc 2 1, 3, 1, 0, 2, 0, 0), none, none,
  some (.goto (-32), 3, 0, 0, 34, 0, 0), none, none, some (.aload_n 0, 1, 0, 0, 0, 0, 0), some (.aload_n 0, 1, 0, 0, 0, 0, 0), some (.iconst 0, 1, 0, 0, 0, 0, 0),
  some (.invokevirtual 330, 3, 0, 0, 187, 1, 7), none, none, some (.i2l, 1, 0, 0, 0, 0, 0), some (.invokevirtual 407, 3, 0, 0, 212, 1, 7), none,
  none, some (.aload_n 0, 1, 0, 0, 0, 0, 0), some (.aload_n 0, 1, 0, 0, 0, 0, 0), some (.iconst 1, 1, 1, 0, 0, 0, 0), some (.invokevirtual 330, 3, 0, 0, 187, 1, 7), none,
  none, some (.i2l, 1, 0, 0, 0, 0, 0), some (.invokevirtual 407, 3, 0, 0, 212, 1, 7), none, none, some (.return_, 1, 0, 0, 0, 0, 0)])
def zt_M_mixForm : zm_M := (⟨"QuadricFlatsModel", "mixForm", "()V"⟩, prog_9_method_112_code, 3, none, 0, false, 7, [
  some (.iconst 0, 1, 0, 0, 0, 0, 0), some (.istore_n 1, 1, 0, 0, 1, 0, 0), some (.iload_n 1, 1, 0, 0, 1, 0, 0), some (.bipush 8, 2, 8, 0, 0, 0, 0), none, some (.if_icmp .ge 19, 3, 0, 0, 24, 0, 0),
  none, none, some (.aload_n 0, 1, 0, 0, 0, 0, 0), some (.aload_n 0, 1, 0, 0, 0, 0, 0), some (.iload_n 1, 1, 0, 0, 1, 0, 0), some (.invokevirtual 267, 3, 0, 0, 156, 1, 7),
  none, none, some (.i2l, 1, 0, 0, 0, 0, 0), some (.invokevirtual 407, 3, 0, 0, 212, 1, 7), none, none,
  some (.iinc 1 1, 3, 1, 0, 1, 0, 0), none, none, some (.goto (-19), 3, 0, 0, 2, 0, 0), none, none,
  some (.iconst 0, 1, 0, 0, 0, 0, 0), some (.istore_n 1, 1, 0, 0, 1, 0, 0), some (.iload_n 1, 1, 0, 0, 1, 0, 0), some (.aload_n 0, 1, 0, 0, 0, 0, 0), some (.getfield 126, 3, 0, 0, 7, 1, 0), none,
  none, some (.if_icmp .ge 41, 3, 0, 0, 72, 0, 0), none, none, some (.iload_n 1, 1, 0, 0, 1, 0, 0), some (.istore_n 2, 1, 0, 0, 2, 0, 0),
  some (.iload_n 2, 1, 0, 0, 2, 0, 0), some (.aload_n 0, 1, 0, 0, 0, 0, 0), some (.getfield 126, 3, 0, 0, 7, 1, 0), none, none, some (.if_icmp .ge 25, 3, 0, 0, 66, 0, 0),
  none, none, some (.aload_n 0, 1, 0, 0, 0, 0, 0), some (.aload_n 0, 1, 0, 0, 0, 0, 0), some (.getfield 7, 3, 0, 0, 7, 2, 0), none,
  none, some (.bipush 6, 2, 6, 0, 0, 0, 0), none, some (.iload_n 1, 1, 0, 0, 1, 0, 0), some (.imul, 1, 0, 0, 0, 0, 0), some (.iload_n 2, 1, 0, 0, 2, 0, 0),
  some (.iadd, 1, 0, 0, 0, 0, 0), some (.iaload, 1, 0, 0, 0, 0, 0), some (.i2l, 1, 0, 0, 0, 0, 0), some (.invokevirtual 407, 3, 0, 0, 212, 1, 7), none, none,
  some (.iinc 2 1, 3, 1, 0, 2, 0, 0), none, none, some (.goto (-27), 3, 0, 0, 36, 0, 0), none, none,
  some (.iinc 1 1, 3, 1, 0, 1, 0, 0), none, none, some (.goto (-43), 3, 0, 0, 26, 0, 0), none, none,
  some (.iconst 0, 1, 0, 0, 0, 0, 0), some (.istore_n 1, 1, 0, 0, 1, 0, 0), some (.iload_n 1, 1, 0, 0, 1, 0, 0), some (.aload_n 0, 1, 0, 0, 0, 0, 0), some (.getfield 138, 3, 0, 0, 7, 6, 0), none,
  none, some (.if_icmp .ge 19, 3, 0, 0, 98, 0, 0), none, none, some (.aload_n 0, 1, 0, 0, 0, 0, 0), some (.aload_n 0, 1, 0, 0, 0, 0, 0),
  some (.iload_n 1, 1, 0, 0, 1, 0, 0), some (.invokevirtual 212, 3, 0, 0, 125, 1, 7), none, none, some (.i2l, 1, 0, 0, 0, 0, 0), some (.invokevirtual 407, 3, 0, 0, 212, 1, 7),
  none, none, some (.iinc 1 1, 3, 1, 0, 1, 0, 0), none, none, some (.goto (-21), 3, 0, 0, 74, 0, 0),
  none, none, some (.aload_n 0, 1, 0, 0, 0, 0, 0), some (.invokevirtual 230, 3, 0, 0, 142, 0, 7), none, none,
  some (.ifCond .eq 7, 3, 0, 0, 109, 0, 0), none, none, some (.aload_n 0, 1, 0, 0, 0, 0, 0), some (.invokevirtual 411, 3, 0, 0, 213, 0, 7), none,
  none, some (.return_, 1, 0, 0, 0, 0, 0)])
def zt_M_digest : zm_M := (⟨"QuadricFlatsModel", "digest", "()J"⟩, prog_9_method_113_code, 3, some .long, 0, false, 7, [
  some (.aload_n 0, 1, 0, 0, 0, 0, 0), some (.ldc2_w 414, 3, 0, 1499, 0, 0, 0), none, none, some (.putfield 404, 3, 0, 0, 7, 46, 1), none,
  none, some (.aload_n 0, 1, 0, 0, 0, 0, 0), some (.invokevirtual 264, 3, 0, 0, 141, 0, 7), none, none, some (.ifCond .eq 7, 3, 0, 0, 18, 0, 0),
  none, none, some (.aload_n 0, 1, 0, 0, 0, 0, 0), some (.invokevirtual 416, 3, 0, 0, 214, 0, 7), none, none,
  some (.iconst 0, 1, 0, 0, 0, 0, 0), some (.istore_n 1, 1, 0, 0, 1, 0, 0), some (.iload_n 1, 1, 0, 0, 1, 0, 0), some (.iconst 2, 1, 2, 0, 0, 0, 0), some (.if_icmp .ge 43, 3, 0, 0, 65, 0, 0), none,
  none, some (.iconst 0, 1, 0, 0, 0, 0, 0), some (.istore_n 2, 1, 0, 0, 2, 0, 0), some (.iload_n 2, 1, 0, 0, 2, 0, 0), some (.aload_n 0, 1, 0, 0, 0, 0, 0), some (.getfield 56, 3, 0, 0, 7, 29, 0),
  none, none, some (.iload_n 1, 1, 0, 0, 1, 0, 0), some (.iaload, 1, 0, 0, 0, 0, 0), some (.if_icmp .ge 25, 3, 0, 0, 59, 0, 0), none,
  none, some (.aload_n 0, 1, 0, 0, 0, 0, 0), some (.aload_n 0, 1, 0, 0, 0, 0, 0), some (.getfield 59, 3, 0, 0, 7, 30, 0), none, none,
  some (.bipush 64, 2, 64, 0, 0, 0, 0), none, some (.iload_n 1, 1, 0, 0, 1, 0, 0), some (.imul, 1, 0, 0, 0, 0, 0), some (.iload_n 2, 1, 0, 0, 2, 0, 0), some (.iadd, 1, 0, 0, 0, 0, 0),
  some (.iaload, 1, 0, 0, 0, 0, 0), some (.i2l, 1, 0, 0, 0, 0, 0), some (.invokevirtual 407, 3, 0, 0, 212, 1, 7), none, none, some (.iinc 2 1, 3, 1, 0, 2, 0, 0),
  none, none, some (.goto (-29), 3, 0, 0, 27, 0, 0), none, none, some (.iinc 1 1, 3, 1, 0, 1, 0, 0),
  none, none, some (.goto (-42), 3, 0, 0, 20, 0, 0), none, none, some (.iconst 0, 1, 0, 0, 0, 0, 0),
  some (.istore_n 1, 1, 0, 0, 1, 0, 0), some (.iload_n 1, 1, 0, 0, 1, 0, 0), some (.aload_n 0, 1, 0, 0, 0, 0, 0), some (.getfield 88, 3, 0, 0, 7, 4, 0), none, none,
  some (.if_icmp .ge 20, 3, 0, 0, 92, 0, 0), none, none, some (.aload_n 0, 1, 0, 0, 0, 0, 0), some (.aload_n 0, 1, 0, 0, 0, 0, 0), some (.getfield 13, 3, 0, 0, 7, 5, 0),
  none, none, some (.iload_n 1, 1, 0, 0, 1, 0, 0), some (.iaload, 1, 0, 0, 0, 0, 0), some (.i2l, 1, 0, 0, 0, 0, 0), some (.invokevirtual 407, 3, 0, 0, 212, 1, 7),
  none, none, some (.iinc 1 1, 3, 1, 0, 1, 0, 0), none, none, some (.goto (-22), 3, 0, 0, 67, 0, 0),
  none, none, some (.iconst 0, 1, 0, 0, 0, 0, 0), some (.istore_n 1, 1, 0, 0, 1, 0, 0), some (.iload_n 1, 1, 0, 0, 1, 0, 0), some (.bipush 9, 2, 9, 0, 0, 0, 0),
  none, some (.if_icmp .ge 19, 3, 0, 0, 116, 0, 0), none, none, some (.aload_n 0, 1, 0, 0, 0, 0, 0), some (.aload_n 0, 1, 0, 0, 0, 0, 0),
  some (.iload_n 1, 1, 0, 0, 1, 0, 0), some (.invokevirtual 399, 3, 0, 0, 210, 1, 7), none, none, some (.i2l, 1, 0, 0, 0, 0, 0), some (.invokevirtual 407, 3, 0, 0, 212, 1, 7),
  none, none, some (.iinc 1 1, 3, 1, 0, 1, 0, 0), none, none, some (.goto (-19), 3, 0, 0, 94, 0, 0),
  none, none, some (.aload_n 0, 1, 0, 0, 0, 0, 0), some (.getfield 404, 3, 0, 0, 7, 46, 0), none, none,
  some (.lreturn, 1, 0, 0, 0, 0, 0)])
def zt_L_bitCount : zm_M := (⟨"java/lang/Long", "bitCount", "(J)I"⟩, prog_10_method_50_code, 2, some .int, 1, true, 0, [
  some (.lload_n 0, 1, 0, 0, 0, 0, 0), some (.lload_n 0, 1, 0, 0, 0, 0, 0), some (.iconst 1, 1, 1, 0, 0, 0, 0), some (.lushr, 1, 0, 0, 0, 0, 0), some (.ldc2_w 314, 3, 0, 6148914691236517205, 0, 0, 0), none,
  none, some (.land, 1, 0, 0, 0, 0, 0), some (.lsub, 1, 0, 0, 0, 0, 0), some (.lstore_n 0, 1, 0, 0, 0, 0, 0), some (.lload_n 0, 1, 0, 0, 0, 0, 0), some (.ldc2_w 316, 3, 0, 3689348814741910323, 0, 0, 0),
  none, none, some (.land, 1, 0, 0, 0, 0, 0), some (.lload_n 0, 1, 0, 0, 0, 0, 0), some (.iconst 2, 1, 2, 0, 0, 0, 0), some (.lushr, 1, 0, 0, 0, 0, 0),
  some (.ldc2_w 316, 3, 0, 3689348814741910323, 0, 0, 0), none, none, some (.land, 1, 0, 0, 0, 0, 0), some (.ladd, 1, 0, 0, 0, 0, 0), some (.lstore_n 0, 1, 0, 0, 0, 0, 0),
  some (.lload_n 0, 1, 0, 0, 0, 0, 0), some (.lload_n 0, 1, 0, 0, 0, 0, 0), some (.iconst 4, 1, 4, 0, 0, 0, 0), some (.lushr, 1, 0, 0, 0, 0, 0), some (.ladd, 1, 0, 0, 0, 0, 0), some (.ldc2_w 318, 3, 0, 1085102592571150095, 0, 0, 0),
  none, none, some (.land, 1, 0, 0, 0, 0, 0), some (.lstore_n 0, 1, 0, 0, 0, 0, 0), some (.lload_n 0, 1, 0, 0, 0, 0, 0), some (.lload_n 0, 1, 0, 0, 0, 0, 0),
  some (.bipush 8, 2, 8, 0, 0, 0, 0), none, some (.lushr, 1, 0, 0, 0, 0, 0), some (.ladd, 1, 0, 0, 0, 0, 0), some (.lstore_n 0, 1, 0, 0, 0, 0, 0), some (.lload_n 0, 1, 0, 0, 0, 0, 0),
  some (.lload_n 0, 1, 0, 0, 0, 0, 0), some (.bipush 16, 2, 16, 0, 0, 0, 0), none, some (.lushr, 1, 0, 0, 0, 0, 0), some (.ladd, 1, 0, 0, 0, 0, 0), some (.lstore_n 0, 1, 0, 0, 0, 0, 0),
  some (.lload_n 0, 1, 0, 0, 0, 0, 0), some (.lload_n 0, 1, 0, 0, 0, 0, 0), some (.bipush 32, 2, 32, 0, 0, 0, 0), none, some (.lushr, 1, 0, 0, 0, 0, 0), some (.ladd, 1, 0, 0, 0, 0, 0),
  some (.lstore_n 0, 1, 0, 0, 0, 0, 0), some (.lload_n 0, 1, 0, 0, 0, 0, 0), some (.l2i, 1, 0, 0, 0, 0, 0), some (.bipush 127, 2, 127, 0, 0, 0, 0), none, some (.iand, 1, 0, 0, 0, 0, 0),
  some (.ireturn, 1, 0, 0, 0, 0, 0)])
def zt_all0 : List zm_M := [zt_F_build, zt_F_findLinks, zt_F_addLines, zt_F_addPlanes, zt_F_spanned, zt_F_linkedWithAll, zt_F_lowestTwo, zt_F_totalOf, zt_F_maskOf, zt_O_hasVariable, zt_O_cell, zt_O_store, zt_O_copyFrom, zt_O_exchange, zt_O_shear, zt_O_stretch, zt_O_multiply, zt_O_discriminant, zt_O_determinant, zt_O_pivotRow, zt_O_exchangeRows, zt_O_clearBelow, zt_P_append, zt_P_firstWrong]
def zt_all1 : List zm_M := [zt_P_isText, zt_P_accepts, zt_P_mostVariables, zt_P_endsRow, zt_P_addsDigit, zt_P_copyTo, zt_Q_layPoints, zt_Q_layPoint, zt_Q_vectorPoint, zt_Q_survey, zt_Q_measure, zt_Q_isSingular, zt_Q_isOn, zt_Q_product, zt_Q_areCollinear, zt_Q_sectionSize, zt_Q_tangentPoint, zt_Q_kind, zt_Q_index, zt_Q_isHyperbolic, zt_H_run, zt_H_walk, zt_H_note, zt_H_fewestChoices]
def zt_all2 : List zm_M := [zt_D_findClashes, zt_D_refuses, zt_D_append, zt_D_appendAll, zt_D_taken, zt_D_covered, zt_D_clashing, zt_D_everything, zt_X_letter, zt_X_blank, zt_X_fault, zt_X_form, zt_X_about, zt_X_coefficient, zt_X_point, zt_X_value, zt_X_polar, zt_X_joined, zt_X_section, zt_X_flats, zt_X_flat, zt_X_near, zt_X_pick, zt_X_gather]
def zt_all3 : List zm_M := [zt_X_drop, zt_X_chosen, zt_X_left, zt_X_finish, zt_X_ways, zt_X_put, zt_X_swap, zt_X_plus, zt_X_scale, zt_X_times, zt_X_image, zt_X_restore, zt_X_like, zt_X_drawn, zt_X_count, zt_X_digest, zt_X_digestForm, zt_X_digestFlats, zt_X_hasForm, zt_X_hasFlats, zt_X_fillSides, zt_X_forget, zt_X_hasPoint, zt_X_isMember]
def zt_all4 : List zm_M := [zt_X_isGreatest, zt_X_pointTotal, zt_X_memberTotal, zt_X_sideOf, zt_X_searchOf, zt_X_entryOf, zt_X_missing, zt_X_nextSeed, zt_X_mod, zt_X_inverse, zt_X_lowestBit, zt_M_within, zt_M_mod, zt_M_letter, zt_M_blank, zt_M_mostOf, zt_M_takesDigit, zt_M_takesSlash, zt_M_takes, zt_M_read, zt_M_fault, zt_M_form, zt_M_firstOf, zt_M_layRow]
def zt_all5 : List zm_M := [zt_M_layPoints, zt_M_pointOf, zt_M_valueOf, zt_M_polarOf, zt_M_take, zt_M_valueAt, zt_M_polarAt, zt_M_mix, zt_M_isJoined, zt_M_isSingular, zt_M_addTo, zt_M_isIn, zt_M_layLine, zt_M_widen, zt_M_areOn, zt_M_layLines, zt_M_layPlane, zt_M_isOfLine, zt_M_layPlanes, zt_M_layForm, zt_M_layNew, zt_M_isForm, zt_M_isSound, zt_M_index]
def zt_all6 : List zm_M := [zt_M_onAt, zt_M_flatsOf, zt_M_sizeOf, zt_M_pointIn, zt_M_greatestMany, zt_M_has, zt_M_kind, zt_M_layMatrix, zt_M_determinant, zt_M_swapLines, zt_M_clearBelow, zt_M_disc, zt_M_aboutNow, zt_M_about, zt_M_isVariable, zt_M_placeOf, zt_M_coefficient, zt_M_isPoint, zt_M_point, zt_M_value, zt_M_polar, zt_M_joined, zt_M_isInSection, zt_M_sectionOn]
def zt_all7 : List zm_M := [zt_M_isTouched, zt_M_touches, zt_M_section, zt_M_flats, zt_M_flat, zt_M_isGreatest, zt_M_isOnPoint, zt_M_nearNow, zt_M_near, zt_M_reach, zt_M_reached, zt_M_choose, zt_M_pick, zt_M_gather, zt_M_isOf, zt_M_drop, zt_M_chosen, zt_M_size, zt_M_wanted, zt_M_leftNow, zt_M_left, zt_M_layCan, zt_M_firstMissing, zt_M_nextCan]
def zt_all8 : List zm_M := [zt_M_waysFrom, zt_M_finishNow, zt_M_finish, zt_M_ways, zt_M_put, zt_M_beginImages, zt_M_takeImage, zt_M_change, zt_M_swap, zt_M_plus, zt_M_scale, zt_M_times, zt_M_image, zt_M_restore, zt_M_like, zt_M_drawOf, zt_M_drawnNow, zt_M_drawn, zt_M_howMany, zt_M_count, zt_M_mixIn, zt_M_mixFlats, zt_M_mixForm, zt_M_digest]
def zt_all9 : List zm_M := [zt_L_bitCount]
def zt_all : List zm_M := zt_all0 ++ (zt_all1 ++ (zt_all2 ++ (zt_all3 ++ (zt_all4 ++ (zt_all5 ++ (zt_all6 ++ (zt_all7 ++ (zt_all8 ++ (zt_all9)))))))))
def zt_get (k : Nat) : Option zm_M := zm_n zt_all k
end
section
/-! the pools are the tables' words (printed by wip/whole/gen_tables.py) -/
def zt_XF : zm_X := ([(9, 0, 0), (15, 0, 1), (18, 0, 2), (21, 3, 8), (33, 0, 3), (40, 0, 4), (47, 0, 5), (54, 3, 4), (58, 3, 6)], [(33, 0, 3, 0), (40, 0, 4, 0), (47, 0, 5, 0)], [(36, 1, 1, 0, false), (43, 2, 1, 0, false), (50, 3, 1, 0, false), (61, 37, 3, 3, false), (67, 4, 1, 0, false), (71, 5, 1, 0, false), (74, 6, 1, 0, true)], [], [(65, -1)], [], [27])
theorem zt_FF_9 : zm_okF zt_cl zt_gw zt_nw "QuadricFlats$Flats" 9 0 0 := ⟨zt_R0, zt_T0, 6, rfl, zt_l0, by decide, Or.inl (zt_in 269 (by decide +kernel) rfl)⟩
theorem zt_FF_15 : zm_okF zt_cl zt_gw zt_nw "QuadricFlats$Flats" 15 0 1 := ⟨zt_R0, zt_T0, 6, rfl, zt_l0, by decide, Or.inl (zt_in 271 (by decide +kernel) rfl)⟩
theorem zt_FF_18 : zm_okF zt_cl zt_gw zt_nw "QuadricFlats$Flats" 18 0 2 := ⟨zt_R0, zt_T0, 6, rfl, zt_l0, by decide, Or.inl (zt_in 272 (by decide +kernel) rfl)⟩
theorem zt_FF_21 : zm_okF zt_cl zt_gw zt_nw "QuadricFlats$Flats" 21 3 8 := ⟨zt_R3, zt_T3, 11, rfl, zt_l3, by decide, Or.inr ⟨"QuadricFlats", zt_inN 234 (by decide +kernel) rfl⟩⟩
theorem zt_FF_33 : zm_okF zt_cl zt_gw zt_nw "QuadricFlats$Flats" 33 0 3 := ⟨zt_R0, zt_T0, 6, rfl, zt_l0, by decide, Or.inl (zt_in 273 (by decide +kernel) rfl)⟩
theorem zt_FF_40 : zm_okF zt_cl zt_gw zt_nw "QuadricFlats$Flats" 40 0 4 := ⟨zt_R0, zt_T0, 6, rfl, zt_l0, by decide, Or.inl (zt_in 275 (by decide +kernel) rfl)⟩
theorem zt_FF_47 : zm_okF zt_cl zt_gw zt_nw "QuadricFlats$Flats" 47 0 5 := ⟨zt_R0, zt_T0, 6, rfl, zt_l0, by decide, Or.inl (zt_in 276 (by decide +kernel) rfl)⟩
theorem zt_FF_54 : zm_okF zt_cl zt_gw zt_nw "QuadricFlats$Flats" 54 3 4 := ⟨zt_R3, zt_T3, 11, rfl, zt_l3, by decide, Or.inr ⟨"QuadricFlats", zt_inN 225 (by decide +kernel) rfl⟩⟩
theorem zt_FF_58 : zm_okF zt_cl zt_gw zt_nw "QuadricFlats$Flats" 58 3 6 := ⟨zt_R3, zt_T3, 11, rfl, zt_l3, by decide, Or.inr ⟨"QuadricFlats", zt_inN 230 (by decide +kernel) rfl⟩⟩
theorem zt_PF_33 : zm_okP zt_cl zt_gw zt_nw "QuadricFlats$Flats" 33 0 3 (zm_ft 0) := ⟨⟨zt_R0, zt_T0, 6, rfl, zt_l0, by decide, Or.inl (zt_in 273 (by decide +kernel) rfl)⟩, zt_R0, zt_T0, 6, rfl, zt_y0, zt_yo0, zt_n0, by decide, by decide +kernel⟩
theorem zt_PF_40 : zm_okP zt_cl zt_gw zt_nw "QuadricFlats$Flats" 40 0 4 (zm_ft 0) := ⟨⟨zt_R0, zt_T0, 6, rfl, zt_l0, by decide, Or.inl (zt_in 275 (by decide +kernel) rfl)⟩, zt_R0, zt_T0, 6, rfl, zt_y0, zt_yo0, zt_n0, by decide, by decide +kernel⟩
theorem zt_PF_47 : zm_okP zt_cl zt_gw zt_nw "QuadricFlats$Flats" 47 0 5 (zm_ft 0) := ⟨⟨zt_R0, zt_T0, 6, rfl, zt_l0, by decide, Or.inl (zt_in 276 (by decide +kernel) rfl)⟩, zt_R0, zt_T0, 6, rfl, zt_y0, zt_yo0, zt_n0, by decide, by decide +kernel⟩
theorem zt_GF_36 : zm_okG zt_get zt_gw zt_nw "QuadricFlats$Flats" 36 1 1 0 false := ⟨zt_F_findLinks, rfl, Or.inl (zt_in 592 (by decide +kernel) rfl), rfl, rfl, fun _ => rfl⟩
theorem zt_GF_43 : zm_okG zt_get zt_gw zt_nw "QuadricFlats$Flats" 43 2 1 0 false := ⟨zt_F_addLines, rfl, Or.inl (zt_in 597 (by decide +kernel) rfl), rfl, rfl, fun _ => rfl⟩
theorem zt_GF_50 : zm_okG zt_get zt_gw zt_nw "QuadricFlats$Flats" 50 3 1 0 false := ⟨zt_F_addPlanes, rfl, Or.inl (zt_in 610 (by decide +kernel) rfl), rfl, rfl, fun _ => rfl⟩
theorem zt_GF_61 : zm_okG zt_get zt_gw zt_nw "QuadricFlats$Flats" 61 37 3 3 false := ⟨zt_Q_product, rfl, Or.inr ⟨"QuadricFlats", zt_inN 596 (by decide +kernel) rfl⟩, rfl, rfl, fun _ => rfl⟩
theorem zt_GF_67 : zm_okG zt_get zt_gw zt_nw "QuadricFlats$Flats" 67 4 1 0 false := ⟨zt_F_spanned, rfl, Or.inl (zt_in 602 (by decide +kernel) rfl), rfl, rfl, fun _ => rfl⟩
theorem zt_GF_71 : zm_okG zt_get zt_gw zt_nw "QuadricFlats$Flats" 71 5 1 0 false := ⟨zt_F_linkedWithAll, rfl, Or.inl (zt_in 606 (by decide +kernel) rfl), rfl, rfl, fun _ => rfl⟩
theorem zt_GF_74 : zm_okG zt_get zt_gw zt_nw "QuadricFlats$Flats" 74 6 1 0 true := ⟨zt_F_lowestTwo, rfl, Or.inl (zt_in 614 (by decide +kernel) rfl), rfl, rfl, fun _ => by contradiction⟩
theorem zt_JF_65 : Jvm.Cond.constantLong "QuadricFlats$Flats" 65 (-1) ∈ zt_gw := zt_in 601 (by decide +kernel) rfl
theorem zt_NF_27 : Jvm.Cond.methodLink "QuadricFlats$Flats" 27 Lib.Math.min.name ∈ zt_gw ∧ Jvm.Cond.static Lib.Math.min.name ∈ zt_gw ∧ Jvm.Cond.initialized "java/lang/Math" ∈ zt_gw ∧ Jvm.Cond.code Lib.Math.min.name Lib.Math.min.code 2 (some .int) ∈ zt_gw := ⟨zt_in 591 (by decide +kernel) rfl, zt_in 449 (by decide +kernel) rfl, zt_in 148 (by decide +kernel) rfl, zt_in 450 (by decide +kernel) rfl⟩
theorem zt_okF : zm_okX zt_get zt_cl zt_gw zt_nw "QuadricFlats$Flats" zt_XF := ⟨List.forall_mem_cons.mpr ⟨zt_FF_9, List.forall_mem_cons.mpr ⟨zt_FF_15, List.forall_mem_cons.mpr ⟨zt_FF_18, List.forall_mem_cons.mpr ⟨zt_FF_21, List.forall_mem_cons.mpr ⟨zt_FF_33, List.forall_mem_cons.mpr ⟨zt_FF_40, List.forall_mem_cons.mpr ⟨zt_FF_47, List.forall_mem_cons.mpr ⟨zt_FF_54, List.forall_mem_cons.mpr ⟨zt_FF_58, fun _ h => absurd h List.not_mem_nil⟩⟩⟩⟩⟩⟩⟩⟩⟩, List.forall_mem_cons.mpr ⟨zt_PF_33, List.forall_mem_cons.mpr ⟨zt_PF_40, List.forall_mem_cons.mpr ⟨zt_PF_47, fun _ h => absurd h List.not_mem_nil⟩⟩⟩, List.forall_mem_cons.mpr ⟨zt_GF_36, List.forall_mem_cons.mpr ⟨zt_GF_43, List.forall_mem_cons.mpr ⟨zt_GF_50, List.forall_mem_cons.mpr ⟨zt_GF_61, List.forall_mem_cons.mpr ⟨zt_GF_67, List.forall_mem_cons.mpr ⟨zt_GF_71, List.forall_mem_cons.mpr ⟨zt_GF_74, fun _ h => absurd h List.not_mem_nil⟩⟩⟩⟩⟩⟩⟩, fun _ h => absurd h List.not_mem_nil, List.forall_mem_cons.mpr ⟨zt_JF_65, fun _ h => absurd h List.not_mem_nil⟩, fun _ h => absurd h List.not_mem_nil, List.forall_mem_cons.mpr ⟨zt_NF_27, fun _ h => absurd h List.not_mem_nil⟩⟩
def zt_XO : zm_X := ([(9, 1, 0), (15, 1, 2), (19, 1, 3), (22, 1, 1)], [(9, 1, 0, 0), (22, 1, 1, 0)], [(25, 104, 2, 0, true), (35, 10, 2, 1, false), (38, 11, 3, 1, false), (42, 18, 0, 1, false), (46, 19, 1, 1, false), (50, 20, 2, 1, false), (54, 21, 1, 1, false), (58, 105, 2, 0, true)], [], [], [29], [])
theorem zt_FO_9 : zm_okF zt_cl zt_gw zt_nw "QuadricFlats$Form" 9 1 0 := ⟨zt_R1, zt_T1, 4, rfl, zt_l1, by decide, Or.inl (zt_in 193 (by decide +kernel) rfl)⟩
theorem zt_FO_15 : zm_okF zt_cl zt_gw zt_nw "QuadricFlats$Form" 15 1 2 := ⟨zt_R1, zt_T1, 4, rfl, zt_l1, by decide, Or.inl (zt_in 201 (by decide +kernel) rfl)⟩
theorem zt_FO_19 : zm_okF zt_cl zt_gw zt_nw "QuadricFlats$Form" 19 1 3 := ⟨zt_R1, zt_T1, 4, rfl, zt_l1, by decide, Or.inl (zt_in 202 (by decide +kernel) rfl)⟩
theorem zt_FO_22 : zm_okF zt_cl zt_gw zt_nw "QuadricFlats$Form" 22 1 1 := ⟨zt_R1, zt_T1, 4, rfl, zt_l1, by decide, Or.inl (zt_in 197 (by decide +kernel) rfl)⟩
theorem zt_PO_9 : zm_okP zt_cl zt_gw zt_nw "QuadricFlats$Form" 9 1 0 (zm_ft 0) := ⟨⟨zt_R1, zt_T1, 4, rfl, zt_l1, by decide, Or.inl (zt_in 193 (by decide +kernel) rfl)⟩, zt_R1, zt_T1, 4, rfl, zt_y1, zt_yo1, zt_n1, by decide, by decide +kernel⟩
theorem zt_PO_22 : zm_okP zt_cl zt_gw zt_nw "QuadricFlats$Form" 22 1 1 (zm_ft 0) := ⟨⟨zt_R1, zt_T1, 4, rfl, zt_l1, by decide, Or.inl (zt_in 197 (by decide +kernel) rfl)⟩, zt_R1, zt_T1, 4, rfl, zt_y1, zt_yo1, zt_n1, by decide, by decide +kernel⟩
theorem zt_GO_25 : zm_okG zt_get zt_gw zt_nw "QuadricFlats$Form" 25 104 2 0 true := ⟨zt_X_mod, rfl, Or.inr ⟨"QuadricFlats", zt_inN 441 (by decide +kernel) rfl⟩, rfl, rfl, fun _ => by contradiction⟩
theorem zt_GO_35 : zm_okG zt_get zt_gw zt_nw "QuadricFlats$Form" 35 10 2 1 false := ⟨zt_O_cell, rfl, Or.inl (zt_in 500 (by decide +kernel) rfl), rfl, rfl, fun _ => rfl⟩
theorem zt_GO_38 : zm_okG zt_get zt_gw zt_nw "QuadricFlats$Form" 38 11 3 1 false := ⟨zt_O_store, rfl, Or.inl (zt_in 769 (by decide +kernel) rfl), rfl, rfl, fun _ => rfl⟩
theorem zt_GO_42 : zm_okG zt_get zt_gw zt_nw "QuadricFlats$Form" 42 18 0 1 false := ⟨zt_O_determinant, rfl, Or.inl (zt_in 496 (by decide +kernel) rfl), rfl, rfl, fun _ => rfl⟩
theorem zt_GO_46 : zm_okG zt_get zt_gw zt_nw "QuadricFlats$Form" 46 19 1 1 false := ⟨zt_O_pivotRow, rfl, Or.inl (zt_in 501 (by decide +kernel) rfl), rfl, rfl, fun _ => rfl⟩
theorem zt_GO_50 : zm_okG zt_get zt_gw zt_nw "QuadricFlats$Form" 50 20 2 1 false := ⟨zt_O_exchangeRows, rfl, Or.inl (zt_in 505 (by decide +kernel) rfl), rfl, rfl, fun _ => rfl⟩
theorem zt_GO_54 : zm_okG zt_get zt_gw zt_nw "QuadricFlats$Form" 54 21 1 1 false := ⟨zt_O_clearBelow, rfl, Or.inl (zt_in 509 (by decide +kernel) rfl), rfl, rfl, fun _ => rfl⟩
theorem zt_GO_58 : zm_okG zt_get zt_gw zt_nw "QuadricFlats$Form" 58 105 2 0 true := ⟨zt_X_inverse, rfl, Or.inr ⟨"QuadricFlats", zt_inN 513 (by decide +kernel) rfl⟩, rfl, rfl, fun _ => by contradiction⟩
theorem zt_AO_29 : Jvm.Cond.methodLink "QuadricFlats$Form" 29 arraycopyName ∈ zt_gw ∧ Jvm.Cond.native arraycopyName ∈ zt_gw ∧ Jvm.Cond.static arraycopyName ∈ zt_gw ∧ Jvm.Cond.initialized "java/lang/System" ∈ zt_gw := ⟨zt_in 806 (by decide +kernel) rfl, zt_in 808 (by decide +kernel) rfl, zt_in 807 (by decide +kernel) rfl, zt_in 150 (by decide +kernel) rfl⟩
theorem zt_okO : zm_okX zt_get zt_cl zt_gw zt_nw "QuadricFlats$Form" zt_XO := ⟨List.forall_mem_cons.mpr ⟨zt_FO_9, List.forall_mem_cons.mpr ⟨zt_FO_15, List.forall_mem_cons.mpr ⟨zt_FO_19, List.forall_mem_cons.mpr ⟨zt_FO_22, fun _ h => absurd h List.not_mem_nil⟩⟩⟩⟩, List.forall_mem_cons.mpr ⟨zt_PO_9, List.forall_mem_cons.mpr ⟨zt_PO_22, fun _ h => absurd h List.not_mem_nil⟩⟩, List.forall_mem_cons.mpr ⟨zt_GO_25, List.forall_mem_cons.mpr ⟨zt_GO_35, List.forall_mem_cons.mpr ⟨zt_GO_38, List.forall_mem_cons.mpr ⟨zt_GO_42, List.forall_mem_cons.mpr ⟨zt_GO_46, List.forall_mem_cons.mpr ⟨zt_GO_50, List.forall_mem_cons.mpr ⟨zt_GO_54, List.forall_mem_cons.mpr ⟨zt_GO_58, fun _ h => absurd h List.not_mem_nil⟩⟩⟩⟩⟩⟩⟩⟩, fun _ h => absurd h List.not_mem_nil, fun _ h => absurd h List.not_mem_nil, List.forall_mem_cons.mpr ⟨zt_AO_29, fun _ h => absurd h List.not_mem_nil⟩, fun _ h => absurd h List.not_mem_nil⟩
def zt_XP : zm_X := ([(9, 2, 0), (15, 2, 1), (19, 2, 4), (22, 2, 5), (33, 2, 3), (36, 2, 2)], [(15, 2, 1, 0), (19, 2, 4, 0), (22, 2, 5, 0), (33, 2, 3, 0), (36, 2, 2, 0), (50, 1, 0, 0), (53, 1, 1, 0)], [(25, 25, 2, 2, false), (29, 23, 0, 2, false), (39, 26, 0, 2, false), (42, 27, 0, 2, false), (46, 28, 1, 2, false), (56, 11, 3, 1, false)], [], [], [], [])
theorem zt_FP_9 : zm_okF zt_cl zt_gw zt_nw "QuadricFlats$Page" 9 2 0 := ⟨zt_R2, zt_T2, 6, rfl, zt_l2, by decide, Or.inl (zt_in 165 (by decide +kernel) rfl)⟩
theorem zt_FP_15 : zm_okF zt_cl zt_gw zt_nw "QuadricFlats$Page" 15 2 1 := ⟨zt_R2, zt_T2, 6, rfl, zt_l2, by decide, Or.inl (zt_in 167 (by decide +kernel) rfl)⟩
theorem zt_FP_19 : zm_okF zt_cl zt_gw zt_nw "QuadricFlats$Page" 19 2 4 := ⟨zt_R2, zt_T2, 6, rfl, zt_l2, by decide, Or.inl (zt_in 171 (by decide +kernel) rfl)⟩
theorem zt_FP_22 : zm_okF zt_cl zt_gw zt_nw "QuadricFlats$Page" 22 2 5 := ⟨zt_R2, zt_T2, 6, rfl, zt_l2, by decide, Or.inl (zt_in 172 (by decide +kernel) rfl)⟩
theorem zt_FP_33 : zm_okF zt_cl zt_gw zt_nw "QuadricFlats$Page" 33 2 3 := ⟨zt_R2, zt_T2, 6, rfl, zt_l2, by decide, Or.inl (zt_in 170 (by decide +kernel) rfl)⟩
theorem zt_FP_36 : zm_okF zt_cl zt_gw zt_nw "QuadricFlats$Page" 36 2 2 := ⟨zt_R2, zt_T2, 6, rfl, zt_l2, by decide, Or.inl (zt_in 169 (by decide +kernel) rfl)⟩
theorem zt_PP_15 : zm_okP zt_cl zt_gw zt_nw "QuadricFlats$Page" 15 2 1 (zm_ft 0) := ⟨⟨zt_R2, zt_T2, 6, rfl, zt_l2, by decide, Or.inl (zt_in 167 (by decide +kernel) rfl)⟩, zt_R2, zt_T2, 6, rfl, zt_y2, zt_yo2, zt_n2, by decide, by decide +kernel⟩
theorem zt_PP_19 : zm_okP zt_cl zt_gw zt_nw "QuadricFlats$Page" 19 2 4 (zm_ft 0) := ⟨⟨zt_R2, zt_T2, 6, rfl, zt_l2, by decide, Or.inl (zt_in 171 (by decide +kernel) rfl)⟩, zt_R2, zt_T2, 6, rfl, zt_y2, zt_yo2, zt_n2, by decide, by decide +kernel⟩
theorem zt_PP_22 : zm_okP zt_cl zt_gw zt_nw "QuadricFlats$Page" 22 2 5 (zm_ft 0) := ⟨⟨zt_R2, zt_T2, 6, rfl, zt_l2, by decide, Or.inl (zt_in 172 (by decide +kernel) rfl)⟩, zt_R2, zt_T2, 6, rfl, zt_y2, zt_yo2, zt_n2, by decide, by decide +kernel⟩
theorem zt_PP_33 : zm_okP zt_cl zt_gw zt_nw "QuadricFlats$Page" 33 2 3 (zm_ft 0) := ⟨⟨zt_R2, zt_T2, 6, rfl, zt_l2, by decide, Or.inl (zt_in 170 (by decide +kernel) rfl)⟩, zt_R2, zt_T2, 6, rfl, zt_y2, zt_yo2, zt_n2, by decide, by decide +kernel⟩
theorem zt_PP_36 : zm_okP zt_cl zt_gw zt_nw "QuadricFlats$Page" 36 2 2 (zm_ft 0) := ⟨⟨zt_R2, zt_T2, 6, rfl, zt_l2, by decide, Or.inl (zt_in 169 (by decide +kernel) rfl)⟩, zt_R2, zt_T2, 6, rfl, zt_y2, zt_yo2, zt_n2, by decide, by decide +kernel⟩
theorem zt_PP_50 : zm_okP zt_cl zt_gw zt_nw "QuadricFlats$Page" 50 1 0 (zm_ft 0) := ⟨⟨zt_R1, zt_T1, 4, rfl, zt_l1, by decide, Or.inr ⟨"QuadricFlats", zt_inN 196 (by decide +kernel) rfl⟩⟩, zt_R1, zt_T1, 4, rfl, zt_y1, zt_yo1, zt_n1, by decide, by decide +kernel⟩
theorem zt_PP_53 : zm_okP zt_cl zt_gw zt_nw "QuadricFlats$Page" 53 1 1 (zm_ft 0) := ⟨⟨zt_R1, zt_T1, 4, rfl, zt_l1, by decide, Or.inr ⟨"QuadricFlats", zt_inN 200 (by decide +kernel) rfl⟩⟩, zt_R1, zt_T1, 4, rfl, zt_y1, zt_yo1, zt_n1, by decide, by decide +kernel⟩
theorem zt_GP_25 : zm_okG zt_get zt_gw zt_nw "QuadricFlats$Page" 25 25 2 2 false := ⟨zt_P_accepts, rfl, Or.inl (zt_in 408 (by decide +kernel) rfl), rfl, rfl, fun _ => rfl⟩
theorem zt_GP_29 : zm_okG zt_get zt_gw zt_nw "QuadricFlats$Page" 29 23 0 2 false := ⟨zt_P_firstWrong, rfl, Or.inl (zt_in 432 (by decide +kernel) rfl), rfl, rfl, fun _ => rfl⟩
theorem zt_GP_39 : zm_okG zt_get zt_gw zt_nw "QuadricFlats$Page" 39 26 0 2 false := ⟨zt_P_mostVariables, rfl, Or.inl (zt_in 412 (by decide +kernel) rfl), rfl, rfl, fun _ => rfl⟩
theorem zt_GP_42 : zm_okG zt_get zt_gw zt_nw "QuadricFlats$Page" 42 27 0 2 false := ⟨zt_P_endsRow, rfl, Or.inl (zt_in 416 (by decide +kernel) rfl), rfl, rfl, fun _ => rfl⟩
theorem zt_GP_46 : zm_okG zt_get zt_gw zt_nw "QuadricFlats$Page" 46 28 1 2 false := ⟨zt_P_addsDigit, rfl, Or.inl (zt_in 420 (by decide +kernel) rfl), rfl, rfl, fun _ => rfl⟩
theorem zt_GP_56 : zm_okG zt_get zt_gw zt_nw "QuadricFlats$Page" 56 11 3 1 false := ⟨zt_O_store, rfl, Or.inr ⟨"QuadricFlats", zt_inN 437 (by decide +kernel) rfl⟩, rfl, rfl, fun _ => rfl⟩
theorem zt_okP : zm_okX zt_get zt_cl zt_gw zt_nw "QuadricFlats$Page" zt_XP := ⟨List.forall_mem_cons.mpr ⟨zt_FP_9, List.forall_mem_cons.mpr ⟨zt_FP_15, List.forall_mem_cons.mpr ⟨zt_FP_19, List.forall_mem_cons.mpr ⟨zt_FP_22, List.forall_mem_cons.mpr ⟨zt_FP_33, List.forall_mem_cons.mpr ⟨zt_FP_36, fun _ h => absurd h List.not_mem_nil⟩⟩⟩⟩⟩⟩, List.forall_mem_cons.mpr ⟨zt_PP_15, List.forall_mem_cons.mpr ⟨zt_PP_19, List.forall_mem_cons.mpr ⟨zt_PP_22, List.forall_mem_cons.mpr ⟨zt_PP_33, List.forall_mem_cons.mpr ⟨zt_PP_36, List.forall_mem_cons.mpr ⟨zt_PP_50, List.forall_mem_cons.mpr ⟨zt_PP_53, fun _ h => absurd h List.not_mem_nil⟩⟩⟩⟩⟩⟩⟩, List.forall_mem_cons.mpr ⟨zt_GP_25, List.forall_mem_cons.mpr ⟨zt_GP_29, List.forall_mem_cons.mpr ⟨zt_GP_39, List.forall_mem_cons.mpr ⟨zt_GP_42, List.forall_mem_cons.mpr ⟨zt_GP_46, List.forall_mem_cons.mpr ⟨zt_GP_56, fun _ h => absurd h List.not_mem_nil⟩⟩⟩⟩⟩⟩, fun _ h => absurd h List.not_mem_nil, fun _ h => absurd h List.not_mem_nil, fun _ h => absurd h List.not_mem_nil, fun _ h => absurd h List.not_mem_nil⟩
def zt_XQ : zm_X := ([(9, 3, 0), (15, 3, 3), (19, 3, 4), (22, 3, 5), (25, 3, 6), (28, 3, 7), (31, 3, 10), (34, 1, 0), (37, 1, 1), (40, 3, 1), (47, 3, 2), (60, 3, 8), (63, 3, 9)], [(9, 3, 0, 0), (40, 3, 1, 0), (47, 3, 2, 0), (60, 3, 8, 0), (63, 3, 9, 0)], [(50, 31, 1, 3, false), (54, 104, 2, 0, true), (57, 105, 2, 0, true), (66, 34, 2, 3, false), (70, 35, 1, 3, false), (74, 10, 2, 1, false), (77, 36, 1, 3, false), (80, 37, 3, 3, false), (84, 32, 0, 3, false), (88, 43, 0, 3, false)], [], [], [], [41])
theorem zt_FQ_9 : zm_okF zt_cl zt_gw zt_nw "QuadricFlats$Quadric" 9 3 0 := ⟨zt_R3, zt_T3, 11, rfl, zt_l3, by decide, Or.inl (zt_in 218 (by decide +kernel) rfl)⟩
theorem zt_FQ_15 : zm_okF zt_cl zt_gw zt_nw "QuadricFlats$Quadric" 15 3 3 := ⟨zt_R3, zt_T3, 11, rfl, zt_l3, by decide, Or.inl (zt_in 222 (by decide +kernel) rfl)⟩
theorem zt_FQ_19 : zm_okF zt_cl zt_gw zt_nw "QuadricFlats$Quadric" 19 3 4 := ⟨zt_R3, zt_T3, 11, rfl, zt_l3, by decide, Or.inl (zt_in 224 (by decide +kernel) rfl)⟩
theorem zt_FQ_22 : zm_okF zt_cl zt_gw zt_nw "QuadricFlats$Quadric" 22 3 5 := ⟨zt_R3, zt_T3, 11, rfl, zt_l3, by decide, Or.inl (zt_in 227 (by decide +kernel) rfl)⟩
theorem zt_FQ_25 : zm_okF zt_cl zt_gw zt_nw "QuadricFlats$Quadric" 25 3 6 := ⟨zt_R3, zt_T3, 11, rfl, zt_l3, by decide, Or.inl (zt_in 229 (by decide +kernel) rfl)⟩
theorem zt_FQ_28 : zm_okF zt_cl zt_gw zt_nw "QuadricFlats$Quadric" 28 3 7 := ⟨zt_R3, zt_T3, 11, rfl, zt_l3, by decide, Or.inl (zt_in 232 (by decide +kernel) rfl)⟩
theorem zt_FQ_31 : zm_okF zt_cl zt_gw zt_nw "QuadricFlats$Quadric" 31 3 10 := ⟨zt_R3, zt_T3, 11, rfl, zt_l3, by decide, Or.inl (zt_in 239 (by decide +kernel) rfl)⟩
theorem zt_FQ_34 : zm_okF zt_cl zt_gw zt_nw "QuadricFlats$Quadric" 34 1 0 := ⟨zt_R1, zt_T1, 4, rfl, zt_l1, by decide, Or.inr ⟨"QuadricFlats", zt_inN 194 (by decide +kernel) rfl⟩⟩
theorem zt_FQ_37 : zm_okF zt_cl zt_gw zt_nw "QuadricFlats$Quadric" 37 1 1 := ⟨zt_R1, zt_T1, 4, rfl, zt_l1, by decide, Or.inr ⟨"QuadricFlats", zt_inN 198 (by decide +kernel) rfl⟩⟩
theorem zt_FQ_40 : zm_okF zt_cl zt_gw zt_nw "QuadricFlats$Quadric" 40 3 1 := ⟨zt_R3, zt_T3, 11, rfl, zt_l3, by decide, Or.inl (zt_in 219 (by decide +kernel) rfl)⟩
theorem zt_FQ_47 : zm_okF zt_cl zt_gw zt_nw "QuadricFlats$Quadric" 47 3 2 := ⟨zt_R3, zt_T3, 11, rfl, zt_l3, by decide, Or.inl (zt_in 220 (by decide +kernel) rfl)⟩
theorem zt_FQ_60 : zm_okF zt_cl zt_gw zt_nw "QuadricFlats$Quadric" 60 3 8 := ⟨zt_R3, zt_T3, 11, rfl, zt_l3, by decide, Or.inl (zt_in 235 (by decide +kernel) rfl)⟩
theorem zt_FQ_63 : zm_okF zt_cl zt_gw zt_nw "QuadricFlats$Quadric" 63 3 9 := ⟨zt_R3, zt_T3, 11, rfl, zt_l3, by decide, Or.inl (zt_in 237 (by decide +kernel) rfl)⟩
theorem zt_PQ_9 : zm_okP zt_cl zt_gw zt_nw "QuadricFlats$Quadric" 9 3 0 (zm_ft 0) := ⟨⟨zt_R3, zt_T3, 11, rfl, zt_l3, by decide, Or.inl (zt_in 218 (by decide +kernel) rfl)⟩, zt_R3, zt_T3, 11, rfl, zt_y3, zt_yo3, zt_n3, by decide, by decide +kernel⟩
theorem zt_PQ_40 : zm_okP zt_cl zt_gw zt_nw "QuadricFlats$Quadric" 40 3 1 (zm_ft 0) := ⟨⟨zt_R3, zt_T3, 11, rfl, zt_l3, by decide, Or.inl (zt_in 219 (by decide +kernel) rfl)⟩, zt_R3, zt_T3, 11, rfl, zt_y3, zt_yo3, zt_n3, by decide, by decide +kernel⟩
theorem zt_PQ_47 : zm_okP zt_cl zt_gw zt_nw "QuadricFlats$Quadric" 47 3 2 (zm_ft 0) := ⟨⟨zt_R3, zt_T3, 11, rfl, zt_l3, by decide, Or.inl (zt_in 220 (by decide +kernel) rfl)⟩, zt_R3, zt_T3, 11, rfl, zt_y3, zt_yo3, zt_n3, by decide, by decide +kernel⟩
theorem zt_PQ_60 : zm_okP zt_cl zt_gw zt_nw "QuadricFlats$Quadric" 60 3 8 (zm_ft 0) := ⟨⟨zt_R3, zt_T3, 11, rfl, zt_l3, by decide, Or.inl (zt_in 235 (by decide +kernel) rfl)⟩, zt_R3, zt_T3, 11, rfl, zt_y3, zt_yo3, zt_n3, by decide, by decide +kernel⟩
theorem zt_PQ_63 : zm_okP zt_cl zt_gw zt_nw "QuadricFlats$Quadric" 63 3 9 (zm_ft 0) := ⟨⟨zt_R3, zt_T3, 11, rfl, zt_l3, by decide, Or.inl (zt_in 237 (by decide +kernel) rfl)⟩, zt_R3, zt_T3, 11, rfl, zt_y3, zt_yo3, zt_n3, by decide, by decide +kernel⟩
theorem zt_GQ_50 : zm_okG zt_get zt_gw zt_nw "QuadricFlats$Quadric" 50 31 1 3 false := ⟨zt_Q_layPoint, rfl, Or.inl (zt_in 451 (by decide +kernel) rfl), rfl, rfl, fun _ => rfl⟩
theorem zt_GQ_54 : zm_okG zt_get zt_gw zt_nw "QuadricFlats$Quadric" 54 104 2 0 true := ⟨zt_X_mod, rfl, Or.inr ⟨"QuadricFlats", zt_inN 455 (by decide +kernel) rfl⟩, rfl, rfl, fun _ => by contradiction⟩
theorem zt_GQ_57 : zm_okG zt_get zt_gw zt_nw "QuadricFlats$Quadric" 57 105 2 0 true := ⟨zt_X_inverse, rfl, Or.inr ⟨"QuadricFlats", zt_inN 578 (by decide +kernel) rfl⟩, rfl, rfl, fun _ => by contradiction⟩
theorem zt_GQ_66 : zm_okG zt_get zt_gw zt_nw "QuadricFlats$Quadric" 66 34 2 3 false := ⟨zt_Q_measure, rfl, Or.inl (zt_in 472 (by decide +kernel) rfl), rfl, rfl, fun _ => rfl⟩
theorem zt_GQ_70 : zm_okG zt_get zt_gw zt_nw "QuadricFlats$Quadric" 70 35 1 3 false := ⟨zt_Q_isSingular, rfl, Or.inl (zt_in 480 (by decide +kernel) rfl), rfl, rfl, fun _ => rfl⟩
theorem zt_GQ_74 : zm_okG zt_get zt_gw zt_nw "QuadricFlats$Quadric" 74 10 2 1 false := ⟨zt_O_cell, rfl, Or.inr ⟨"QuadricFlats", zt_inN 476 (by decide +kernel) rfl⟩, rfl, rfl, fun _ => rfl⟩
theorem zt_GQ_77 : zm_okG zt_get zt_gw zt_nw "QuadricFlats$Quadric" 77 36 1 3 false := ⟨zt_Q_isOn, rfl, Or.inl (zt_in 557 (by decide +kernel) rfl), rfl, rfl, fun _ => rfl⟩
theorem zt_GQ_80 : zm_okG zt_get zt_gw zt_nw "QuadricFlats$Quadric" 80 37 3 3 false := ⟨zt_Q_product, rfl, Or.inl (zt_in 561 (by decide +kernel) rfl), rfl, rfl, fun _ => rfl⟩
theorem zt_GQ_84 : zm_okG zt_get zt_gw zt_nw "QuadricFlats$Quadric" 84 32 0 3 false := ⟨zt_Q_vectorPoint, rfl, Or.inl (zt_in 574 (by decide +kernel) rfl), rfl, rfl, fun _ => rfl⟩
theorem zt_GQ_88 : zm_okG zt_get zt_gw zt_nw "QuadricFlats$Quadric" 88 43 0 3 false := ⟨zt_Q_isHyperbolic, rfl, Or.inl (zt_in 488 (by decide +kernel) rfl), rfl, rfl, fun _ => rfl⟩
theorem zt_NQ_41 : Jvm.Cond.methodLink "QuadricFlats$Quadric" 41 Lib.Math.min.name ∈ zt_gw ∧ Jvm.Cond.static Lib.Math.min.name ∈ zt_gw ∧ Jvm.Cond.initialized "java/lang/Math" ∈ zt_gw ∧ Jvm.Cond.code Lib.Math.min.name Lib.Math.min.code 2 (some .int) ∈ zt_gw := ⟨zt_in 448 (by decide +kernel) rfl, zt_in 449 (by decide +kernel) rfl, zt_in 148 (by decide +kernel) rfl, zt_in 450 (by decide +kernel) rfl⟩
theorem zt_okQ : zm_okX zt_get zt_cl zt_gw zt_nw "QuadricFlats$Quadric" zt_XQ := ⟨List.forall_mem_cons.mpr ⟨zt_FQ_9, List.forall_mem_cons.mpr ⟨zt_FQ_15, List.forall_mem_cons.mpr ⟨zt_FQ_19, List.forall_mem_cons.mpr ⟨zt_FQ_22, List.forall_mem_cons.mpr ⟨zt_FQ_25, List.forall_mem_cons.mpr ⟨zt_FQ_28, List.forall_mem_cons.mpr ⟨zt_FQ_31, List.forall_mem_cons.mpr ⟨zt_FQ_34, List.forall_mem_cons.mpr ⟨zt_FQ_37, List.forall_mem_cons.mpr ⟨zt_FQ_40, List.forall_mem_cons.mpr ⟨zt_FQ_47, List.forall_mem_cons.mpr ⟨zt_FQ_60, List.forall_mem_cons.mpr ⟨zt_FQ_63, fun _ h => absurd h List.not_mem_nil⟩⟩⟩⟩⟩⟩⟩⟩⟩⟩⟩⟩⟩, List.forall_mem_cons.mpr ⟨zt_PQ_9, List.forall_mem_cons.mpr ⟨zt_PQ_40, List.forall_mem_cons.mpr ⟨zt_PQ_47, List.forall_mem_cons.mpr ⟨zt_PQ_60, List.forall_mem_cons.mpr ⟨zt_PQ_63, fun _ h => absurd h List.not_mem_nil⟩⟩⟩⟩⟩, List.forall_mem_cons.mpr ⟨zt_GQ_50, List.forall_mem_cons.mpr ⟨zt_GQ_54, List.forall_mem_cons.mpr ⟨zt_GQ_57, List.forall_mem_cons.mpr ⟨zt_GQ_66, List.forall_mem_cons.mpr ⟨zt_GQ_70, List.forall_mem_cons.mpr ⟨zt_GQ_74, List.forall_mem_cons.mpr ⟨zt_GQ_77, List.forall_mem_cons.mpr ⟨zt_GQ_80, List.forall_mem_cons.mpr ⟨zt_GQ_84, List.forall_mem_cons.mpr ⟨zt_GQ_88, fun _ h => absurd h List.not_mem_nil⟩⟩⟩⟩⟩⟩⟩⟩⟩⟩, fun _ h => absurd h List.not_mem_nil, fun _ h => absurd h List.not_mem_nil, fun _ h => absurd h List.not_mem_nil, List.forall_mem_cons.mpr ⟨zt_NQ_41, fun _ h => absurd h List.not_mem_nil⟩⟩
def zt_XH : zm_X := ([(9, 4, 0), (15, 4, 1), (18, 4, 2), (22, 4, 3), (43, 5, 4), (67, 5, 1), (71, 5, 2), (74, 5, 0)], [(18, 4, 2, 0), (22, 4, 3, 1)], [(26, 55, 0, 5, false), (32, 53, 0, 5, false), (37, 54, 0, 5, false), (40, 52, 0, 5, false), (46, 45, 4, 4, false), (50, 46, 1, 4, false), (54, 47, 2, 4, false), (58, 216, 1, 0, true), (64, 106, 1, 0, true)], [], [(35, -1)], [], [])
theorem zt_FH_9 : zm_okF zt_cl zt_gw zt_nw "QuadricFlats$Search" 9 4 0 := ⟨zt_R4, zt_T4, 4, rfl, zt_l4, by decide, Or.inl (zt_in 327 (by decide +kernel) rfl)⟩
theorem zt_FH_15 : zm_okF zt_cl zt_gw zt_nw "QuadricFlats$Search" 15 4 1 := ⟨zt_R4, zt_T4, 4, rfl, zt_l4, by decide, Or.inl (zt_in 328 (by decide +kernel) rfl)⟩
theorem zt_FH_18 : zm_okF zt_cl zt_gw zt_nw "QuadricFlats$Search" 18 4 2 := ⟨zt_R4, zt_T4, 4, rfl, zt_l4, by decide, Or.inl (zt_in 329 (by decide +kernel) rfl)⟩
theorem zt_FH_22 : zm_okF zt_cl zt_gw zt_nw "QuadricFlats$Search" 22 4 3 := ⟨zt_R4, zt_T4, 4, rfl, zt_l4, by decide, Or.inl (zt_in 331 (by decide +kernel) rfl)⟩
theorem zt_FH_43 : zm_okF zt_cl zt_gw zt_nw "QuadricFlats$Search" 43 5 4 := ⟨zt_R5, zt_T5, 5, rfl, zt_l5, by decide, Or.inr ⟨"QuadricFlats", zt_inN 307 (by decide +kernel) rfl⟩⟩
theorem zt_FH_67 : zm_okF zt_cl zt_gw zt_nw "QuadricFlats$Search" 67 5 1 := ⟨zt_R5, zt_T5, 5, rfl, zt_l5, by decide, Or.inr ⟨"QuadricFlats", zt_inN 301 (by decide +kernel) rfl⟩⟩
theorem zt_FH_71 : zm_okF zt_cl zt_gw zt_nw "QuadricFlats$Search" 71 5 2 := ⟨zt_R5, zt_T5, 5, rfl, zt_l5, by decide, Or.inr ⟨"QuadricFlats", zt_inN 304 (by decide +kernel) rfl⟩⟩
theorem zt_FH_74 : zm_okF zt_cl zt_gw zt_nw "QuadricFlats$Search" 74 5 0 := ⟨zt_R5, zt_T5, 5, rfl, zt_l5, by decide, Or.inr ⟨"QuadricFlats", zt_inN 298 (by decide +kernel) rfl⟩⟩
theorem zt_PH_18 : zm_okP zt_cl zt_gw zt_nw "QuadricFlats$Search" 18 4 2 (zm_ft 0) := ⟨⟨zt_R4, zt_T4, 4, rfl, zt_l4, by decide, Or.inl (zt_in 329 (by decide +kernel) rfl)⟩, zt_R4, zt_T4, 4, rfl, zt_y4, zt_yo4, zt_n4, by decide, by decide +kernel⟩
theorem zt_PH_22 : zm_okP zt_cl zt_gw zt_nw "QuadricFlats$Search" 22 4 3 (zm_ft 1) := ⟨⟨zt_R4, zt_T4, 4, rfl, zt_l4, by decide, Or.inl (zt_in 331 (by decide +kernel) rfl)⟩, zt_R4, zt_T4, 4, rfl, zt_y4, zt_yo4, zt_n4, by decide, by decide +kernel⟩
theorem zt_GH_26 : zm_okG zt_get zt_gw zt_nw "QuadricFlats$Search" 26 55 0 5 false := ⟨zt_D_everything, rfl, Or.inr ⟨"QuadricFlats", zt_inN 719 (by decide +kernel) rfl⟩, rfl, rfl, fun _ => rfl⟩
theorem zt_GH_32 : zm_okG zt_get zt_gw zt_nw "QuadricFlats$Search" 32 53 0 5 false := ⟨zt_D_covered, rfl, Or.inr ⟨"QuadricFlats", zt_inN 724 (by decide +kernel) rfl⟩, rfl, rfl, fun _ => rfl⟩
theorem zt_GH_37 : zm_okG zt_get zt_gw zt_nw "QuadricFlats$Search" 37 54 0 5 false := ⟨zt_D_clashing, rfl, Or.inr ⟨"QuadricFlats", zt_inN 726 (by decide +kernel) rfl⟩, rfl, rfl, fun _ => rfl⟩
theorem zt_GH_40 : zm_okG zt_get zt_gw zt_nw "QuadricFlats$Search" 40 52 0 5 false := ⟨zt_D_taken, rfl, Or.inr ⟨"QuadricFlats", zt_inN 730 (by decide +kernel) rfl⟩, rfl, rfl, fun _ => rfl⟩
theorem zt_GH_46 : zm_okG zt_get zt_gw zt_nw "QuadricFlats$Search" 46 45 4 4 false := ⟨zt_H_walk, rfl, Or.inl (zt_in 731 (by decide +kernel) rfl), rfl, rfl, fun _ => rfl⟩
theorem zt_GH_50 : zm_okG zt_get zt_gw zt_nw "QuadricFlats$Search" 50 46 1 4 false := ⟨zt_H_note, rfl, Or.inl (zt_in 735 (by decide +kernel) rfl), rfl, rfl, fun _ => rfl⟩
theorem zt_GH_54 : zm_okG zt_get zt_gw zt_nw "QuadricFlats$Search" 54 47 2 4 false := ⟨zt_H_fewestChoices, rfl, Or.inl (zt_in 739 (by decide +kernel) rfl), rfl, rfl, fun _ => rfl⟩
theorem zt_GH_58 : zm_okG zt_get zt_gw zt_nw "QuadricFlats$Search" 58 216 1 0 true := ⟨zt_L_bitCount, rfl, Or.inl (zt_in 743 (by decide +kernel) rfl), rfl, rfl, fun _ => by contradiction⟩
theorem zt_GH_64 : zm_okG zt_get zt_gw zt_nw "QuadricFlats$Search" 64 106 1 0 true := ⟨zt_X_lowestBit, rfl, Or.inr ⟨"QuadricFlats", zt_inN 744 (by decide +kernel) rfl⟩, rfl, rfl, fun _ => by contradiction⟩
theorem zt_JH_35 : Jvm.Cond.constantLong "QuadricFlats$Search" 35 (-1) ∈ zt_gw := zt_in 725 (by decide +kernel) rfl
theorem zt_okH : zm_okX zt_get zt_cl zt_gw zt_nw "QuadricFlats$Search" zt_XH := ⟨List.forall_mem_cons.mpr ⟨zt_FH_9, List.forall_mem_cons.mpr ⟨zt_FH_15, List.forall_mem_cons.mpr ⟨zt_FH_18, List.forall_mem_cons.mpr ⟨zt_FH_22, List.forall_mem_cons.mpr ⟨zt_FH_43, List.forall_mem_cons.mpr ⟨zt_FH_67, List.forall_mem_cons.mpr ⟨zt_FH_71, List.forall_mem_cons.mpr ⟨zt_FH_74, fun _ h => absurd h List.not_mem_nil⟩⟩⟩⟩⟩⟩⟩⟩, List.forall_mem_cons.mpr ⟨zt_PH_18, List.forall_mem_cons.mpr ⟨zt_PH_22, fun _ h => absurd h List.not_mem_nil⟩⟩, List.forall_mem_cons.mpr ⟨zt_GH_26, List.forall_mem_cons.mpr ⟨zt_GH_32, List.forall_mem_cons.mpr ⟨zt_GH_37, List.forall_mem_cons.mpr ⟨zt_GH_40, List.forall_mem_cons.mpr ⟨zt_GH_46, List.forall_mem_cons.mpr ⟨zt_GH_50, List.forall_mem_cons.mpr ⟨zt_GH_54, List.forall_mem_cons.mpr ⟨zt_GH_58, List.forall_mem_cons.mpr ⟨zt_GH_64, fun _ h => absurd h List.not_mem_nil⟩⟩⟩⟩⟩⟩⟩⟩⟩, fun _ h => absurd h List.not_mem_nil, List.forall_mem_cons.mpr ⟨zt_JH_35, fun _ h => absurd h List.not_mem_nil⟩, fun _ h => absurd h List.not_mem_nil, fun _ h => absurd h List.not_mem_nil⟩
def zt_XD : zm_X := ([(9, 5, 1), (15, 5, 2), (18, 5, 3), (22, 5, 0), (30, 5, 4)], [(30, 5, 4, 0)], [(26, 52, 0, 5, false), (33, 50, 1, 5, false)], [], [(37, -1)], [], [])
theorem zt_FD_9 : zm_okF zt_cl zt_gw zt_nw "QuadricFlats$Side" 9 5 1 := ⟨zt_R5, zt_T5, 5, rfl, zt_l5, by decide, Or.inl (zt_in 300 (by decide +kernel) rfl)⟩
theorem zt_FD_15 : zm_okF zt_cl zt_gw zt_nw "QuadricFlats$Side" 15 5 2 := ⟨zt_R5, zt_T5, 5, rfl, zt_l5, by decide, Or.inl (zt_in 303 (by decide +kernel) rfl)⟩
theorem zt_FD_18 : zm_okF zt_cl zt_gw zt_nw "QuadricFlats$Side" 18 5 3 := ⟨zt_R5, zt_T5, 5, rfl, zt_l5, by decide, Or.inl (zt_in 305 (by decide +kernel) rfl)⟩
theorem zt_FD_22 : zm_okF zt_cl zt_gw zt_nw "QuadricFlats$Side" 22 5 0 := ⟨zt_R5, zt_T5, 5, rfl, zt_l5, by decide, Or.inl (zt_in 297 (by decide +kernel) rfl)⟩
theorem zt_FD_30 : zm_okF zt_cl zt_gw zt_nw "QuadricFlats$Side" 30 5 4 := ⟨zt_R5, zt_T5, 5, rfl, zt_l5, by decide, Or.inl (zt_in 308 (by decide +kernel) rfl)⟩
theorem zt_PD_30 : zm_okP zt_cl zt_gw zt_nw "QuadricFlats$Side" 30 5 4 (zm_ft 0) := ⟨⟨zt_R5, zt_T5, 5, rfl, zt_l5, by decide, Or.inl (zt_in 308 (by decide +kernel) rfl)⟩, zt_R5, zt_T5, 5, rfl, zt_y5, zt_yo5, zt_n5, by decide, by decide +kernel⟩
theorem zt_GD_26 : zm_okG zt_get zt_gw zt_nw "QuadricFlats$Side" 26 52 0 5 false := ⟨zt_D_taken, rfl, Or.inl (zt_in 667 (by decide +kernel) rfl), rfl, rfl, fun _ => rfl⟩
theorem zt_GD_33 : zm_okG zt_get zt_gw zt_nw "QuadricFlats$Side" 33 50 1 5 false := ⟨zt_D_append, rfl, Or.inl (zt_in 751 (by decide +kernel) rfl), rfl, rfl, fun _ => rfl⟩
theorem zt_JD_37 : Jvm.Cond.constantLong "QuadricFlats$Side" 37 (-1) ∈ zt_gw := zt_in 723 (by decide +kernel) rfl
theorem zt_okD : zm_okX zt_get zt_cl zt_gw zt_nw "QuadricFlats$Side" zt_XD := ⟨List.forall_mem_cons.mpr ⟨zt_FD_9, List.forall_mem_cons.mpr ⟨zt_FD_15, List.forall_mem_cons.mpr ⟨zt_FD_18, List.forall_mem_cons.mpr ⟨zt_FD_22, List.forall_mem_cons.mpr ⟨zt_FD_30, fun _ h => absurd h List.not_mem_nil⟩⟩⟩⟩⟩, List.forall_mem_cons.mpr ⟨zt_PD_30, fun _ h => absurd h List.not_mem_nil⟩, List.forall_mem_cons.mpr ⟨zt_GD_26, List.forall_mem_cons.mpr ⟨zt_GD_33, fun _ h => absurd h List.not_mem_nil⟩⟩, fun _ h => absurd h List.not_mem_nil, List.forall_mem_cons.mpr ⟨zt_JD_37, fun _ h => absurd h List.not_mem_nil⟩, fun _ h => absurd h List.not_mem_nil, fun _ h => absurd h List.not_mem_nil⟩
def zt_XX : zm_X := ([(12, 6, 0), (19, 6, 1), (23, 6, 2), (29, 6, 3), (36, 6, 4), (43, 6, 5), (47, 6, 6), (55, 6, 7), (59, 6, 8), (62, 2, 1), (82, 6, 10), (91, 3, 2), (97, 1, 0), (100, 1, 1), (103, 3, 8), (106, 3, 9), (129, 3, 3), (133, 3, 5), (136, 3, 4), (170, 3, 6), (182, 3, 7), (185, 5, 1), (189, 0, 0), (196, 5, 4), (207, 6, 11), (217, 4, 2), (220, 4, 3), (234, 6, 12), (259, 6, 9), (275, 5, 0), (289, 2, 0), (298, 6, 13), (305, 6, 14), (315, 0, 3), (326, 5, 3)], [(62, 2, 1, 0), (82, 6, 10, 0), (196, 5, 4, 0), (207, 6, 11, 0), (234, 6, 12, 0), (259, 6, 9, 0), (275, 5, 0, 0), (298, 6, 13, 2), (305, 6, 14, 2)], [(66, 22, 1, 2, false), (70, 23, 0, 2, false), (74, 24, 0, 2, false), (78, 29, 1, 2, false), (85, 30, 1, 3, false), (88, 93, 0, 6, false), (94, 90, 0, 6, false), (109, 41, 0, 3, false), (112, 17, 0, 1, false), (115, 42, 0, 3, false), (118, 9, 1, 1, false), (122, 10, 2, 1, false), (126, 94, 1, 6, false), (139, 37, 3, 3, false), (143, 38, 2, 3, false), (147, 39, 1, 3, false), (151, 40, 1, 3, false), (154, 91, 0, 6, false), (157, 7, 1, 0, false), (160, 8, 2, 0, false), (164, 216, 1, 0, true), (173, 106, 1, 0, true), (176, 95, 1, 6, false), (179, 96, 1, 6, false), (192, 49, 1, 5, false), (195, 50, 1, 5, false), (197, 99, 1, 6, false), (201, 101, 2, 6, false), (204, 102, 1, 6, false), (210, 100, 1, 6, false), (214, 44, 0, 4, false), (224, 52, 0, 5, false), (230, 51, 1, 5, false), (237, 11, 3, 1, false), (241, 13, 2, 1, false), (245, 98, 0, 6, false), (247, 14, 3, 1, false), (250, 15, 2, 1, false), (253, 16, 1, 1, false), (256, 12, 1, 1, false), (262, 103, 1, 0, true), (266, 104, 2, 0, true), (269, 36, 1, 3, false), (272, 97, 0, 6, false), (280, 88, 1, 6, false), (284, 89, 1, 6, false), (292, 86, 1, 6, false), (295, 60, 1, 6, false), (302, 33, 1, 3, false), (308, 0, 1, 0, false), (312, 92, 0, 6, false), (322, 48, 1, 5, false), (329, 53, 0, 5, false)], [(265, 65536)], [(228, -1), (278, 1499), (287, 31), (332, 1103515245), (334, 12345), (336, 2147483647)], [], [317])
theorem zt_FX_12 : zm_okF zt_cl zt_gw zt_nw "QuadricFlats" 12 6 0 := ⟨zt_R6, zt_T6, 15, rfl, zt_l6, by decide, Or.inl (zt_in 342 (by decide +kernel) rfl)⟩
theorem zt_FX_19 : zm_okF zt_cl zt_gw zt_nw "QuadricFlats" 19 6 1 := ⟨zt_R6, zt_T6, 15, rfl, zt_l6, by decide, Or.inl (zt_in 343 (by decide +kernel) rfl)⟩
theorem zt_FX_23 : zm_okF zt_cl zt_gw zt_nw "QuadricFlats" 23 6 2 := ⟨zt_R6, zt_T6, 15, rfl, zt_l6, by decide, Or.inl (zt_in 344 (by decide +kernel) rfl)⟩
theorem zt_FX_29 : zm_okF zt_cl zt_gw zt_nw "QuadricFlats" 29 6 3 := ⟨zt_R6, zt_T6, 15, rfl, zt_l6, by decide, Or.inl (zt_in 345 (by decide +kernel) rfl)⟩
theorem zt_FX_36 : zm_okF zt_cl zt_gw zt_nw "QuadricFlats" 36 6 4 := ⟨zt_R6, zt_T6, 15, rfl, zt_l6, by decide, Or.inl (zt_in 346 (by decide +kernel) rfl)⟩
theorem zt_FX_43 : zm_okF zt_cl zt_gw zt_nw "QuadricFlats" 43 6 5 := ⟨zt_R6, zt_T6, 15, rfl, zt_l6, by decide, Or.inl (zt_in 347 (by decide +kernel) rfl)⟩
theorem zt_FX_47 : zm_okF zt_cl zt_gw zt_nw "QuadricFlats" 47 6 6 := ⟨zt_R6, zt_T6, 15, rfl, zt_l6, by decide, Or.inl (zt_in 348 (by decide +kernel) rfl)⟩
theorem zt_FX_55 : zm_okF zt_cl zt_gw zt_nw "QuadricFlats" 55 6 7 := ⟨zt_R6, zt_T6, 15, rfl, zt_l6, by decide, Or.inl (zt_in 349 (by decide +kernel) rfl)⟩
theorem zt_FX_59 : zm_okF zt_cl zt_gw zt_nw "QuadricFlats" 59 6 8 := ⟨zt_R6, zt_T6, 15, rfl, zt_l6, by decide, Or.inl (zt_in 350 (by decide +kernel) rfl)⟩
theorem zt_FX_62 : zm_okF zt_cl zt_gw zt_nw "QuadricFlats" 62 2 1 := ⟨zt_R2, zt_T2, 6, rfl, zt_l2, by decide, Or.inr ⟨"QuadricFlats", zt_inN 168 (by decide +kernel) rfl⟩⟩
theorem zt_FX_82 : zm_okF zt_cl zt_gw zt_nw "QuadricFlats" 82 6 10 := ⟨zt_R6, zt_T6, 15, rfl, zt_l6, by decide, Or.inl (zt_in 352 (by decide +kernel) rfl)⟩
theorem zt_FX_91 : zm_okF zt_cl zt_gw zt_nw "QuadricFlats" 91 3 2 := ⟨zt_R3, zt_T3, 11, rfl, zt_l3, by decide, Or.inr ⟨"QuadricFlats", zt_inN 221 (by decide +kernel) rfl⟩⟩
theorem zt_FX_97 : zm_okF zt_cl zt_gw zt_nw "QuadricFlats" 97 1 0 := ⟨zt_R1, zt_T1, 4, rfl, zt_l1, by decide, Or.inr ⟨"QuadricFlats", zt_inN 195 (by decide +kernel) rfl⟩⟩
theorem zt_FX_100 : zm_okF zt_cl zt_gw zt_nw "QuadricFlats" 100 1 1 := ⟨zt_R1, zt_T1, 4, rfl, zt_l1, by decide, Or.inr ⟨"QuadricFlats", zt_inN 199 (by decide +kernel) rfl⟩⟩
theorem zt_FX_103 : zm_okF zt_cl zt_gw zt_nw "QuadricFlats" 103 3 8 := ⟨zt_R3, zt_T3, 11, rfl, zt_l3, by decide, Or.inr ⟨"QuadricFlats", zt_inN 236 (by decide +kernel) rfl⟩⟩
theorem zt_FX_106 : zm_okF zt_cl zt_gw zt_nw "QuadricFlats" 106 3 9 := ⟨zt_R3, zt_T3, 11, rfl, zt_l3, by decide, Or.inr ⟨"QuadricFlats", zt_inN 238 (by decide +kernel) rfl⟩⟩
theorem zt_FX_129 : zm_okF zt_cl zt_gw zt_nw "QuadricFlats" 129 3 3 := ⟨zt_R3, zt_T3, 11, rfl, zt_l3, by decide, Or.inr ⟨"QuadricFlats", zt_inN 223 (by decide +kernel) rfl⟩⟩
theorem zt_FX_133 : zm_okF zt_cl zt_gw zt_nw "QuadricFlats" 133 3 5 := ⟨zt_R3, zt_T3, 11, rfl, zt_l3, by decide, Or.inr ⟨"QuadricFlats", zt_inN 228 (by decide +kernel) rfl⟩⟩
theorem zt_FX_136 : zm_okF zt_cl zt_gw zt_nw "QuadricFlats" 136 3 4 := ⟨zt_R3, zt_T3, 11, rfl, zt_l3, by decide, Or.inr ⟨"QuadricFlats", zt_inN 226 (by decide +kernel) rfl⟩⟩
theorem zt_FX_170 : zm_okF zt_cl zt_gw zt_nw "QuadricFlats" 170 3 6 := ⟨zt_R3, zt_T3, 11, rfl, zt_l3, by decide, Or.inr ⟨"QuadricFlats", zt_inN 231 (by decide +kernel) rfl⟩⟩
theorem zt_FX_182 : zm_okF zt_cl zt_gw zt_nw "QuadricFlats" 182 3 7 := ⟨zt_R3, zt_T3, 11, rfl, zt_l3, by decide, Or.inr ⟨"QuadricFlats", zt_inN 233 (by decide +kernel) rfl⟩⟩
theorem zt_FX_185 : zm_okF zt_cl zt_gw zt_nw "QuadricFlats" 185 5 1 := ⟨zt_R5, zt_T5, 5, rfl, zt_l5, by decide, Or.inr ⟨"QuadricFlats", zt_inN 302 (by decide +kernel) rfl⟩⟩
theorem zt_FX_189 : zm_okF zt_cl zt_gw zt_nw "QuadricFlats" 189 0 0 := ⟨zt_R0, zt_T0, 6, rfl, zt_l0, by decide, Or.inr ⟨"QuadricFlats", zt_inN 270 (by decide +kernel) rfl⟩⟩
theorem zt_FX_196 : zm_okF zt_cl zt_gw zt_nw "QuadricFlats" 196 5 4 := ⟨zt_R5, zt_T5, 5, rfl, zt_l5, by decide, Or.inr ⟨"QuadricFlats", zt_inN 309 (by decide +kernel) rfl⟩⟩
theorem zt_FX_207 : zm_okF zt_cl zt_gw zt_nw "QuadricFlats" 207 6 11 := ⟨zt_R6, zt_T6, 15, rfl, zt_l6, by decide, Or.inl (zt_in 353 (by decide +kernel) rfl)⟩
theorem zt_FX_217 : zm_okF zt_cl zt_gw zt_nw "QuadricFlats" 217 4 2 := ⟨zt_R4, zt_T4, 4, rfl, zt_l4, by decide, Or.inr ⟨"QuadricFlats", zt_inN 330 (by decide +kernel) rfl⟩⟩
theorem zt_FX_220 : zm_okF zt_cl zt_gw zt_nw "QuadricFlats" 220 4 3 := ⟨zt_R4, zt_T4, 4, rfl, zt_l4, by decide, Or.inr ⟨"QuadricFlats", zt_inN 332 (by decide +kernel) rfl⟩⟩
theorem zt_FX_234 : zm_okF zt_cl zt_gw zt_nw "QuadricFlats" 234 6 12 := ⟨zt_R6, zt_T6, 15, rfl, zt_l6, by decide, Or.inl (zt_in 354 (by decide +kernel) rfl)⟩
theorem zt_FX_259 : zm_okF zt_cl zt_gw zt_nw "QuadricFlats" 259 6 9 := ⟨zt_R6, zt_T6, 15, rfl, zt_l6, by decide, Or.inl (zt_in 351 (by decide +kernel) rfl)⟩
theorem zt_FX_275 : zm_okF zt_cl zt_gw zt_nw "QuadricFlats" 275 5 0 := ⟨zt_R5, zt_T5, 5, rfl, zt_l5, by decide, Or.inr ⟨"QuadricFlats", zt_inN 299 (by decide +kernel) rfl⟩⟩
theorem zt_FX_289 : zm_okF zt_cl zt_gw zt_nw "QuadricFlats" 289 2 0 := ⟨zt_R2, zt_T2, 6, rfl, zt_l2, by decide, Or.inr ⟨"QuadricFlats", zt_inN 166 (by decide +kernel) rfl⟩⟩
theorem zt_FX_298 : zm_okF zt_cl zt_gw zt_nw "QuadricFlats" 298 6 13 := ⟨zt_R6, zt_T6, 15, rfl, zt_l6, by decide, Or.inl (zt_in 355 (by decide +kernel) rfl)⟩
theorem zt_FX_305 : zm_okF zt_cl zt_gw zt_nw "QuadricFlats" 305 6 14 := ⟨zt_R6, zt_T6, 15, rfl, zt_l6, by decide, Or.inl (zt_in 356 (by decide +kernel) rfl)⟩
theorem zt_FX_315 : zm_okF zt_cl zt_gw zt_nw "QuadricFlats" 315 0 3 := ⟨zt_R0, zt_T0, 6, rfl, zt_l0, by decide, Or.inr ⟨"QuadricFlats", zt_inN 274 (by decide +kernel) rfl⟩⟩
theorem zt_FX_326 : zm_okF zt_cl zt_gw zt_nw "QuadricFlats" 326 5 3 := ⟨zt_R5, zt_T5, 5, rfl, zt_l5, by decide, Or.inr ⟨"QuadricFlats", zt_inN 306 (by decide +kernel) rfl⟩⟩
theorem zt_PX_62 : zm_okP zt_cl zt_gw zt_nw "QuadricFlats" 62 2 1 (zm_ft 0) := ⟨⟨zt_R2, zt_T2, 6, rfl, zt_l2, by decide, Or.inr ⟨"QuadricFlats", zt_inN 168 (by decide +kernel) rfl⟩⟩, zt_R2, zt_T2, 6, rfl, zt_y2, zt_yo2, zt_n2, by decide, by decide +kernel⟩
theorem zt_PX_82 : zm_okP zt_cl zt_gw zt_nw "QuadricFlats" 82 6 10 (zm_ft 0) := ⟨⟨zt_R6, zt_T6, 15, rfl, zt_l6, by decide, Or.inl (zt_in 352 (by decide +kernel) rfl)⟩, zt_R6, zt_T6, 15, rfl, zt_y6, zt_yo6, zt_n6, by decide, by decide +kernel⟩
theorem zt_PX_196 : zm_okP zt_cl zt_gw zt_nw "QuadricFlats" 196 5 4 (zm_ft 0) := ⟨⟨zt_R5, zt_T5, 5, rfl, zt_l5, by decide, Or.inr ⟨"QuadricFlats", zt_inN 309 (by decide +kernel) rfl⟩⟩, zt_R5, zt_T5, 5, rfl, zt_y5, zt_yo5, zt_n5, by decide, by decide +kernel⟩
theorem zt_PX_207 : zm_okP zt_cl zt_gw zt_nw "QuadricFlats" 207 6 11 (zm_ft 0) := ⟨⟨zt_R6, zt_T6, 15, rfl, zt_l6, by decide, Or.inl (zt_in 353 (by decide +kernel) rfl)⟩, zt_R6, zt_T6, 15, rfl, zt_y6, zt_yo6, zt_n6, by decide, by decide +kernel⟩
theorem zt_PX_234 : zm_okP zt_cl zt_gw zt_nw "QuadricFlats" 234 6 12 (zm_ft 0) := ⟨⟨zt_R6, zt_T6, 15, rfl, zt_l6, by decide, Or.inl (zt_in 354 (by decide +kernel) rfl)⟩, zt_R6, zt_T6, 15, rfl, zt_y6, zt_yo6, zt_n6, by decide, by decide +kernel⟩
theorem zt_PX_259 : zm_okP zt_cl zt_gw zt_nw "QuadricFlats" 259 6 9 (zm_ft 0) := ⟨⟨zt_R6, zt_T6, 15, rfl, zt_l6, by decide, Or.inl (zt_in 351 (by decide +kernel) rfl)⟩, zt_R6, zt_T6, 15, rfl, zt_y6, zt_yo6, zt_n6, by decide, by decide +kernel⟩
theorem zt_PX_275 : zm_okP zt_cl zt_gw zt_nw "QuadricFlats" 275 5 0 (zm_ft 0) := ⟨⟨zt_R5, zt_T5, 5, rfl, zt_l5, by decide, Or.inr ⟨"QuadricFlats", zt_inN 299 (by decide +kernel) rfl⟩⟩, zt_R5, zt_T5, 5, rfl, zt_y5, zt_yo5, zt_n5, by decide, by decide +kernel⟩
theorem zt_PX_298 : zm_okP zt_cl zt_gw zt_nw "QuadricFlats" 298 6 13 (zm_ft 2) := ⟨⟨zt_R6, zt_T6, 15, rfl, zt_l6, by decide, Or.inl (zt_in 355 (by decide +kernel) rfl)⟩, zt_R6, zt_T6, 15, rfl, zt_y6, zt_yo6, zt_n6, by decide, by decide +kernel⟩
theorem zt_PX_305 : zm_okP zt_cl zt_gw zt_nw "QuadricFlats" 305 6 14 (zm_ft 2) := ⟨⟨zt_R6, zt_T6, 15, rfl, zt_l6, by decide, Or.inl (zt_in 356 (by decide +kernel) rfl)⟩, zt_R6, zt_T6, 15, rfl, zt_y6, zt_yo6, zt_n6, by decide, by decide +kernel⟩
theorem zt_GX_66 : zm_okG zt_get zt_gw zt_nw "QuadricFlats" 66 22 1 2 false := ⟨zt_P_append, rfl, Or.inr ⟨"QuadricFlats", zt_inN 392 (by decide +kernel) rfl⟩, rfl, rfl, fun _ => rfl⟩
theorem zt_GX_70 : zm_okG zt_get zt_gw zt_nw "QuadricFlats" 70 23 0 2 false := ⟨zt_P_firstWrong, rfl, Or.inr ⟨"QuadricFlats", zt_inN 404 (by decide +kernel) rfl⟩, rfl, rfl, fun _ => rfl⟩
theorem zt_GX_74 : zm_okG zt_get zt_gw zt_nw "QuadricFlats" 74 24 0 2 false := ⟨zt_P_isText, rfl, Or.inr ⟨"QuadricFlats", zt_inN 428 (by decide +kernel) rfl⟩, rfl, rfl, fun _ => rfl⟩
theorem zt_GX_78 : zm_okG zt_get zt_gw zt_nw "QuadricFlats" 78 29 1 2 false := ⟨zt_P_copyTo, rfl, Or.inr ⟨"QuadricFlats", zt_inN 433 (by decide +kernel) rfl⟩, rfl, rfl, fun _ => rfl⟩
theorem zt_GX_85 : zm_okG zt_get zt_gw zt_nw "QuadricFlats" 85 30 1 3 false := ⟨zt_Q_layPoints, rfl, Or.inr ⟨"QuadricFlats", zt_inN 444 (by decide +kernel) rfl⟩, rfl, rfl, fun _ => rfl⟩
theorem zt_GX_88 : zm_okG zt_get zt_gw zt_nw "QuadricFlats" 88 93 0 6 false := ⟨zt_X_forget, rfl, Or.inl (zt_in 456 (by decide +kernel) rfl), rfl, rfl, fun _ => rfl⟩
theorem zt_GX_94 : zm_okG zt_get zt_gw zt_nw "QuadricFlats" 94 90 0 6 false := ⟨zt_X_hasForm, rfl, Or.inl (zt_in 464 (by decide +kernel) rfl), rfl, rfl, fun _ => rfl⟩
theorem zt_GX_109 : zm_okG zt_get zt_gw zt_nw "QuadricFlats" 109 41 0 3 false := ⟨zt_Q_kind, rfl, Or.inr ⟨"QuadricFlats", zt_inN 484 (by decide +kernel) rfl⟩, rfl, rfl, fun _ => rfl⟩
theorem zt_GX_112 : zm_okG zt_get zt_gw zt_nw "QuadricFlats" 112 17 0 1 false := ⟨zt_O_discriminant, rfl, Or.inr ⟨"QuadricFlats", zt_inN 492 (by decide +kernel) rfl⟩, rfl, rfl, fun _ => rfl⟩
theorem zt_GX_115 : zm_okG zt_get zt_gw zt_nw "QuadricFlats" 115 42 0 3 false := ⟨zt_Q_index, rfl, Or.inr ⟨"QuadricFlats", zt_inN 516 (by decide +kernel) rfl⟩, rfl, rfl, fun _ => rfl⟩
theorem zt_GX_118 : zm_okG zt_get zt_gw zt_nw "QuadricFlats" 118 9 1 1 false := ⟨zt_O_hasVariable, rfl, Or.inr ⟨"QuadricFlats", zt_inN 524 (by decide +kernel) rfl⟩, rfl, rfl, fun _ => rfl⟩
theorem zt_GX_122 : zm_okG zt_get zt_gw zt_nw "QuadricFlats" 122 10 2 1 false := ⟨zt_O_cell, rfl, Or.inr ⟨"QuadricFlats", zt_inN 528 (by decide +kernel) rfl⟩, rfl, rfl, fun _ => rfl⟩
theorem zt_GX_126 : zm_okG zt_get zt_gw zt_nw "QuadricFlats" 126 94 1 6 false := ⟨zt_X_hasPoint, rfl, Or.inl (zt_in 533 (by decide +kernel) rfl), rfl, rfl, fun _ => rfl⟩
theorem zt_GX_139 : zm_okG zt_get zt_gw zt_nw "QuadricFlats" 139 37 3 3 false := ⟨zt_Q_product, rfl, Or.inr ⟨"QuadricFlats", zt_inN 545 (by decide +kernel) rfl⟩, rfl, rfl, fun _ => rfl⟩
theorem zt_GX_143 : zm_okG zt_get zt_gw zt_nw "QuadricFlats" 143 38 2 3 false := ⟨zt_Q_areCollinear, rfl, Or.inr ⟨"QuadricFlats", zt_inN 553 (by decide +kernel) rfl⟩, rfl, rfl, fun _ => rfl⟩
theorem zt_GX_147 : zm_okG zt_get zt_gw zt_nw "QuadricFlats" 147 39 1 3 false := ⟨zt_Q_sectionSize, rfl, Or.inr ⟨"QuadricFlats", zt_inN 566 (by decide +kernel) rfl⟩, rfl, rfl, fun _ => rfl⟩
theorem zt_GX_151 : zm_okG zt_get zt_gw zt_nw "QuadricFlats" 151 40 1 3 false := ⟨zt_Q_tangentPoint, rfl, Or.inr ⟨"QuadricFlats", zt_inN 570 (by decide +kernel) rfl⟩, rfl, rfl, fun _ => rfl⟩
theorem zt_GX_154 : zm_okG zt_get zt_gw zt_nw "QuadricFlats" 154 91 0 6 false := ⟨zt_X_hasFlats, rfl, Or.inl (zt_in 583 (by decide +kernel) rfl), rfl, rfl, fun _ => rfl⟩
theorem zt_GX_157 : zm_okG zt_get zt_gw zt_nw "QuadricFlats" 157 7 1 0 false := ⟨zt_F_totalOf, rfl, Or.inr ⟨"QuadricFlats", zt_inN 622 (by decide +kernel) rfl⟩, rfl, rfl, fun _ => rfl⟩
theorem zt_GX_160 : zm_okG zt_get zt_gw zt_nw "QuadricFlats" 160 8 2 0 false := ⟨zt_F_maskOf, rfl, Or.inr ⟨"QuadricFlats", zt_inN 626 (by decide +kernel) rfl⟩, rfl, rfl, fun _ => rfl⟩
theorem zt_GX_164 : zm_okG zt_get zt_gw zt_nw "QuadricFlats" 164 216 1 0 true := ⟨zt_L_bitCount, rfl, Or.inl (zt_in 638 (by decide +kernel) rfl), rfl, rfl, fun _ => by contradiction⟩
theorem zt_GX_173 : zm_okG zt_get zt_gw zt_nw "QuadricFlats" 173 106 1 0 true := ⟨zt_X_lowestBit, rfl, Or.inl (zt_in 644 (by decide +kernel) rfl), rfl, rfl, fun _ => by contradiction⟩
theorem zt_GX_176 : zm_okG zt_get zt_gw zt_nw "QuadricFlats" 176 95 1 6 false := ⟨zt_X_isMember, rfl, Or.inl (zt_in 651 (by decide +kernel) rfl), rfl, rfl, fun _ => rfl⟩
theorem zt_GX_179 : zm_okG zt_get zt_gw zt_nw "QuadricFlats" 179 96 1 6 false := ⟨zt_X_isGreatest, rfl, Or.inl (zt_in 655 (by decide +kernel) rfl), rfl, rfl, fun _ => rfl⟩
theorem zt_GX_192 : zm_okG zt_get zt_gw zt_nw "QuadricFlats" 192 49 1 5 false := ⟨zt_D_refuses, rfl, Or.inr ⟨"QuadricFlats", zt_inN 663 (by decide +kernel) rfl⟩, rfl, rfl, fun _ => rfl⟩
theorem zt_GX_195 : zm_okG zt_get zt_gw zt_nw "QuadricFlats" 195 50 1 5 false := ⟨zt_D_append, rfl, Or.inr ⟨"QuadricFlats", zt_inN 671 (by decide +kernel) rfl⟩, rfl, rfl, fun _ => rfl⟩
theorem zt_GX_197 : zm_okG zt_get zt_gw zt_nw "QuadricFlats" 197 99 1 6 false := ⟨zt_X_sideOf, rfl, Or.inl (zt_in 683 (by decide +kernel) rfl), rfl, rfl, fun _ => rfl⟩
theorem zt_GX_201 : zm_okG zt_get zt_gw zt_nw "QuadricFlats" 201 101 2 6 false := ⟨zt_X_entryOf, rfl, Or.inl (zt_in 687 (by decide +kernel) rfl), rfl, rfl, fun _ => rfl⟩
theorem zt_GX_204 : zm_okG zt_get zt_gw zt_nw "QuadricFlats" 204 102 1 6 false := ⟨zt_X_missing, rfl, Or.inl (zt_in 699 (by decide +kernel) rfl), rfl, rfl, fun _ => rfl⟩
theorem zt_GX_210 : zm_okG zt_get zt_gw zt_nw "QuadricFlats" 210 100 1 6 false := ⟨zt_X_searchOf, rfl, Or.inl (zt_in 711 (by decide +kernel) rfl), rfl, rfl, fun _ => rfl⟩
theorem zt_GX_214 : zm_okG zt_get zt_gw zt_nw "QuadricFlats" 214 44 0 4 false := ⟨zt_H_run, rfl, Or.inr ⟨"QuadricFlats", zt_inN 715 (by decide +kernel) rfl⟩, rfl, rfl, fun _ => rfl⟩
theorem zt_GX_224 : zm_okG zt_get zt_gw zt_nw "QuadricFlats" 224 52 0 5 false := ⟨zt_D_taken, rfl, Or.inr ⟨"QuadricFlats", zt_inN 745 (by decide +kernel) rfl⟩, rfl, rfl, fun _ => rfl⟩
theorem zt_GX_230 : zm_okG zt_get zt_gw zt_nw "QuadricFlats" 230 51 1 5 false := ⟨zt_D_appendAll, rfl, Or.inr ⟨"QuadricFlats", zt_inN 747 (by decide +kernel) rfl⟩, rfl, rfl, fun _ => rfl⟩
theorem zt_GX_237 : zm_okG zt_get zt_gw zt_nw "QuadricFlats" 237 11 3 1 false := ⟨zt_O_store, rfl, Or.inr ⟨"QuadricFlats", zt_inN 760 (by decide +kernel) rfl⟩, rfl, rfl, fun _ => rfl⟩
theorem zt_GX_241 : zm_okG zt_get zt_gw zt_nw "QuadricFlats" 241 13 2 1 false := ⟨zt_O_exchange, rfl, Or.inr ⟨"QuadricFlats", zt_inN 765 (by decide +kernel) rfl⟩, rfl, rfl, fun _ => rfl⟩
theorem zt_GX_245 : zm_okG zt_get zt_gw zt_nw "QuadricFlats" 245 98 0 6 false := ⟨zt_X_memberTotal, rfl, Or.inl (zt_in 770 (by decide +kernel) rfl), rfl, rfl, fun _ => rfl⟩
theorem zt_GX_247 : zm_okG zt_get zt_gw zt_nw "QuadricFlats" 247 14 3 1 false := ⟨zt_O_shear, rfl, Or.inr ⟨"QuadricFlats", zt_inN 778 (by decide +kernel) rfl⟩, rfl, rfl, fun _ => rfl⟩
theorem zt_GX_250 : zm_okG zt_get zt_gw zt_nw "QuadricFlats" 250 15 2 1 false := ⟨zt_O_stretch, rfl, Or.inr ⟨"QuadricFlats", zt_inN 786 (by decide +kernel) rfl⟩, rfl, rfl, fun _ => rfl⟩
theorem zt_GX_253 : zm_okG zt_get zt_gw zt_nw "QuadricFlats" 253 16 1 1 false := ⟨zt_O_multiply, rfl, Or.inr ⟨"QuadricFlats", zt_inN 794 (by decide +kernel) rfl⟩, rfl, rfl, fun _ => rfl⟩
theorem zt_GX_256 : zm_okG zt_get zt_gw zt_nw "QuadricFlats" 256 12 1 1 false := ⟨zt_O_copyFrom, rfl, Or.inr ⟨"QuadricFlats", zt_inN 802 (by decide +kernel) rfl⟩, rfl, rfl, fun _ => rfl⟩
theorem zt_GX_262 : zm_okG zt_get zt_gw zt_nw "QuadricFlats" 262 103 1 0 true := ⟨zt_X_nextSeed, rfl, Or.inl (zt_in 821 (by decide +kernel) rfl), rfl, rfl, fun _ => by contradiction⟩
theorem zt_GX_266 : zm_okG zt_get zt_gw zt_nw "QuadricFlats" 266 104 2 0 true := ⟨zt_X_mod, rfl, Or.inl (zt_in 828 (by decide +kernel) rfl), rfl, rfl, fun _ => by contradiction⟩
theorem zt_GX_269 : zm_okG zt_get zt_gw zt_nw "QuadricFlats" 269 36 1 3 false := ⟨zt_Q_isOn, rfl, Or.inr ⟨"QuadricFlats", zt_inN 829 (by decide +kernel) rfl⟩, rfl, rfl, fun _ => rfl⟩
theorem zt_GX_272 : zm_okG zt_get zt_gw zt_nw "QuadricFlats" 272 97 0 6 false := ⟨zt_X_pointTotal, rfl, Or.inl (zt_in 834 (by decide +kernel) rfl), rfl, rfl, fun _ => rfl⟩
theorem zt_GX_280 : zm_okG zt_get zt_gw zt_nw "QuadricFlats" 280 88 1 6 false := ⟨zt_X_digestForm, rfl, Or.inl (zt_in 843 (by decide +kernel) rfl), rfl, rfl, fun _ => rfl⟩
theorem zt_GX_284 : zm_okG zt_get zt_gw zt_nw "QuadricFlats" 284 89 1 6 false := ⟨zt_X_digestFlats, rfl, Or.inl (zt_in 849 (by decide +kernel) rfl), rfl, rfl, fun _ => rfl⟩
theorem zt_GX_292 : zm_okG zt_get zt_gw zt_nw "QuadricFlats" 292 86 1 6 false := ⟨zt_X_count, rfl, Or.inl (zt_in 853 (by decide +kernel) rfl), rfl, rfl, fun _ => rfl⟩
theorem zt_GX_295 : zm_okG zt_get zt_gw zt_nw "QuadricFlats" 295 60 1 6 false := ⟨zt_X_about, rfl, Or.inl (zt_in 848 (by decide +kernel) rfl), rfl, rfl, fun _ => rfl⟩
theorem zt_GX_302 : zm_okG zt_get zt_gw zt_nw "QuadricFlats" 302 33 1 3 false := ⟨zt_Q_survey, rfl, Or.inr ⟨"QuadricFlats", zt_inN 468 (by decide +kernel) rfl⟩, rfl, rfl, fun _ => rfl⟩
theorem zt_GX_308 : zm_okG zt_get zt_gw zt_nw "QuadricFlats" 308 0 1 0 false := ⟨zt_F_build, rfl, Or.inr ⟨"QuadricFlats", zt_inN 587 (by decide +kernel) rfl⟩, rfl, rfl, fun _ => rfl⟩
theorem zt_GX_312 : zm_okG zt_get zt_gw zt_nw "QuadricFlats" 312 92 0 6 false := ⟨zt_X_fillSides, rfl, Or.inl (zt_in 617 (by decide +kernel) rfl), rfl, rfl, fun _ => rfl⟩
theorem zt_GX_322 : zm_okG zt_get zt_gw zt_nw "QuadricFlats" 322 48 1 5 false := ⟨zt_D_findClashes, rfl, Or.inr ⟨"QuadricFlats", zt_inN 630 (by decide +kernel) rfl⟩, rfl, rfl, fun _ => rfl⟩
theorem zt_GX_329 : zm_okG zt_get zt_gw zt_nw "QuadricFlats" 329 53 0 5 false := ⟨zt_D_covered, rfl, Or.inr ⟨"QuadricFlats", zt_inN 703 (by decide +kernel) rfl⟩, rfl, rfl, fun _ => rfl⟩
theorem zt_KX_265 : Jvm.Cond.constant "QuadricFlats" 265 65536 ∈ zt_gw := zt_in 827 (by decide +kernel) rfl
theorem zt_JX_228 : Jvm.Cond.constantLong "QuadricFlats" 228 (-1) ∈ zt_gw := zt_in 746 (by decide +kernel) rfl
theorem zt_JX_278 : Jvm.Cond.constantLong "QuadricFlats" 278 1499 ∈ zt_gw := zt_in 842 (by decide +kernel) rfl
theorem zt_JX_287 : Jvm.Cond.constantLong "QuadricFlats" 287 31 ∈ zt_gw := zt_in 847 (by decide +kernel) rfl
theorem zt_JX_332 : Jvm.Cond.constantLong "QuadricFlats" 332 1103515245 ∈ zt_gw := zt_in 824 (by decide +kernel) rfl
theorem zt_JX_334 : Jvm.Cond.constantLong "QuadricFlats" 334 12345 ∈ zt_gw := zt_in 825 (by decide +kernel) rfl
theorem zt_JX_336 : Jvm.Cond.constantLong "QuadricFlats" 336 2147483647 ∈ zt_gw := zt_in 826 (by decide +kernel) rfl
theorem zt_NX_317 : Jvm.Cond.methodLink "QuadricFlats" 317 Lib.Math.min.name ∈ zt_gw ∧ Jvm.Cond.static Lib.Math.min.name ∈ zt_gw ∧ Jvm.Cond.initialized "java/lang/Math" ∈ zt_gw ∧ Jvm.Cond.code Lib.Math.min.name Lib.Math.min.code 2 (some .int) ∈ zt_gw := ⟨zt_in 621 (by decide +kernel) rfl, zt_in 449 (by decide +kernel) rfl, zt_in 148 (by decide +kernel) rfl, zt_in 450 (by decide +kernel) rfl⟩
theorem zt_okX : zm_okX zt_get zt_cl zt_gw zt_nw "QuadricFlats" zt_XX := ⟨List.forall_mem_cons.mpr ⟨zt_FX_12, List.forall_mem_cons.mpr ⟨zt_FX_19, List.forall_mem_cons.mpr ⟨zt_FX_23, List.forall_mem_cons.mpr ⟨zt_FX_29, List.forall_mem_cons.mpr ⟨zt_FX_36, List.forall_mem_cons.mpr ⟨zt_FX_43, List.forall_mem_cons.mpr ⟨zt_FX_47, List.forall_mem_cons.mpr ⟨zt_FX_55, List.forall_mem_cons.mpr ⟨zt_FX_59, List.forall_mem_cons.mpr ⟨zt_FX_62, List.forall_mem_cons.mpr ⟨zt_FX_82, List.forall_mem_cons.mpr ⟨zt_FX_91, List.forall_mem_cons.mpr ⟨zt_FX_97, List.forall_mem_cons.mpr ⟨zt_FX_100, List.forall_mem_cons.mpr ⟨zt_FX_103, List.forall_mem_cons.mpr ⟨zt_FX_106, List.forall_mem_cons.mpr ⟨zt_FX_129, List.forall_mem_cons.mpr ⟨zt_FX_133, List.forall_mem_cons.mpr ⟨zt_FX_136, List.forall_mem_cons.mpr ⟨zt_FX_170, List.forall_mem_cons.mpr ⟨zt_FX_182, List.forall_mem_cons.mpr ⟨zt_FX_185, List.forall_mem_cons.mpr ⟨zt_FX_189, List.forall_mem_cons.mpr ⟨zt_FX_196, List.forall_mem_cons.mpr ⟨zt_FX_207, List.forall_mem_cons.mpr ⟨zt_FX_217, List.forall_mem_cons.mpr ⟨zt_FX_220, List.forall_mem_cons.mpr ⟨zt_FX_234, List.forall_mem_cons.mpr ⟨zt_FX_259, List.forall_mem_cons.mpr ⟨zt_FX_275, List.forall_mem_cons.mpr ⟨zt_FX_289, List.forall_mem_cons.mpr ⟨zt_FX_298, List.forall_mem_cons.mpr ⟨zt_FX_305, List.forall_mem_cons.mpr ⟨zt_FX_315, List.forall_mem_cons.mpr ⟨zt_FX_326, fun _ h => absurd h List.not_mem_nil⟩⟩⟩⟩⟩⟩⟩⟩⟩⟩⟩⟩⟩⟩⟩⟩⟩⟩⟩⟩⟩⟩⟩⟩⟩⟩⟩⟩⟩⟩⟩⟩⟩⟩⟩, List.forall_mem_cons.mpr ⟨zt_PX_62, List.forall_mem_cons.mpr ⟨zt_PX_82, List.forall_mem_cons.mpr ⟨zt_PX_196, List.forall_mem_cons.mpr ⟨zt_PX_207, List.forall_mem_cons.mpr ⟨zt_PX_234, List.forall_mem_cons.mpr ⟨zt_PX_259, List.forall_mem_cons.mpr ⟨zt_PX_275, List.forall_mem_cons.mpr ⟨zt_PX_298, List.forall_mem_cons.mpr ⟨zt_PX_305, fun _ h => absurd h List.not_mem_nil⟩⟩⟩⟩⟩⟩⟩⟩⟩, List.forall_mem_cons.mpr ⟨zt_GX_66, List.forall_mem_cons.mpr ⟨zt_GX_70, List.forall_mem_cons.mpr ⟨zt_GX_74, List.forall_mem_cons.mpr ⟨zt_GX_78, List.forall_mem_cons.mpr ⟨zt_GX_85, List.forall_mem_cons.mpr ⟨zt_GX_88, List.forall_mem_cons.mpr ⟨zt_GX_94, List.forall_mem_cons.mpr ⟨zt_GX_109, List.forall_mem_cons.mpr ⟨zt_GX_112, List.forall_mem_cons.mpr ⟨zt_GX_115, List.forall_mem_cons.mpr ⟨zt_GX_118, List.forall_mem_cons.mpr ⟨zt_GX_122, List.forall_mem_cons.mpr ⟨zt_GX_126, List.forall_mem_cons.mpr ⟨zt_GX_139, List.forall_mem_cons.mpr ⟨zt_GX_143, List.forall_mem_cons.mpr ⟨zt_GX_147, List.forall_mem_cons.mpr ⟨zt_GX_151, List.forall_mem_cons.mpr ⟨zt_GX_154, List.forall_mem_cons.mpr ⟨zt_GX_157, List.forall_mem_cons.mpr ⟨zt_GX_160, List.forall_mem_cons.mpr ⟨zt_GX_164, List.forall_mem_cons.mpr ⟨zt_GX_173, List.forall_mem_cons.mpr ⟨zt_GX_176, List.forall_mem_cons.mpr ⟨zt_GX_179, List.forall_mem_cons.mpr ⟨zt_GX_192, List.forall_mem_cons.mpr ⟨zt_GX_195, List.forall_mem_cons.mpr ⟨zt_GX_197, List.forall_mem_cons.mpr ⟨zt_GX_201, List.forall_mem_cons.mpr ⟨zt_GX_204, List.forall_mem_cons.mpr ⟨zt_GX_210, List.forall_mem_cons.mpr ⟨zt_GX_214, List.forall_mem_cons.mpr ⟨zt_GX_224, List.forall_mem_cons.mpr ⟨zt_GX_230, List.forall_mem_cons.mpr ⟨zt_GX_237, List.forall_mem_cons.mpr ⟨zt_GX_241, List.forall_mem_cons.mpr ⟨zt_GX_245, List.forall_mem_cons.mpr ⟨zt_GX_247, List.forall_mem_cons.mpr ⟨zt_GX_250, List.forall_mem_cons.mpr ⟨zt_GX_253, List.forall_mem_cons.mpr ⟨zt_GX_256, List.forall_mem_cons.mpr ⟨zt_GX_262, List.forall_mem_cons.mpr ⟨zt_GX_266, List.forall_mem_cons.mpr ⟨zt_GX_269, List.forall_mem_cons.mpr ⟨zt_GX_272, List.forall_mem_cons.mpr ⟨zt_GX_280, List.forall_mem_cons.mpr ⟨zt_GX_284, List.forall_mem_cons.mpr ⟨zt_GX_292, List.forall_mem_cons.mpr ⟨zt_GX_295, List.forall_mem_cons.mpr ⟨zt_GX_302, List.forall_mem_cons.mpr ⟨zt_GX_308, List.forall_mem_cons.mpr ⟨zt_GX_312, List.forall_mem_cons.mpr ⟨zt_GX_322, List.forall_mem_cons.mpr ⟨zt_GX_329, fun _ h => absurd h List.not_mem_nil⟩⟩⟩⟩⟩⟩⟩⟩⟩⟩⟩⟩⟩⟩⟩⟩⟩⟩⟩⟩⟩⟩⟩⟩⟩⟩⟩⟩⟩⟩⟩⟩⟩⟩⟩⟩⟩⟩⟩⟩⟩⟩⟩⟩⟩⟩⟩⟩⟩⟩⟩⟩⟩, List.forall_mem_cons.mpr ⟨zt_KX_265, fun _ h => absurd h List.not_mem_nil⟩, List.forall_mem_cons.mpr ⟨zt_JX_228, List.forall_mem_cons.mpr ⟨zt_JX_278, List.forall_mem_cons.mpr ⟨zt_JX_287, List.forall_mem_cons.mpr ⟨zt_JX_332, List.forall_mem_cons.mpr ⟨zt_JX_334, List.forall_mem_cons.mpr ⟨zt_JX_336, fun _ h => absurd h List.not_mem_nil⟩⟩⟩⟩⟩⟩, fun _ h => absurd h List.not_mem_nil, List.forall_mem_cons.mpr ⟨zt_NX_317, fun _ h => absurd h List.not_mem_nil⟩⟩
def zt_XM : zm_X := ([(7, 7, 2), (13, 7, 5), (16, 7, 7), (19, 7, 8), (22, 7, 9), (26, 7, 13), (29, 7, 15), (32, 7, 20), (35, 7, 21), (38, 7, 22), (41, 7, 23), (44, 7, 24), (47, 7, 26), (50, 7, 27), (53, 7, 28), (56, 7, 29), (59, 7, 30), (62, 7, 32), (66, 7, 33), (69, 7, 34), (72, 7, 35), (75, 7, 38), (78, 7, 39), (81, 7, 44), (88, 7, 4), (92, 7, 17), (95, 7, 16), (102, 7, 18), (105, 7, 19), (123, 7, 0), (126, 7, 1), (129, 7, 3), (138, 7, 6), (174, 7, 25), (180, 7, 12), (200, 7, 14), (206, 7, 10), (209, 7, 11), (333, 7, 31), (350, 7, 36), (356, 7, 37), (369, 7, 40), (372, 7, 41), (375, 7, 42), (378, 7, 43), (383, 7, 45), (404, 7, 46)], [(88, 7, 4, 0), (92, 7, 17, 0), (95, 7, 16, 0), (102, 7, 18, 0), (105, 7, 19, 0), (123, 7, 0, 0), (126, 7, 1, 0), (129, 7, 3, 0), (138, 7, 6, 0), (174, 7, 25, 0), (180, 7, 12, 0), (200, 7, 14, 0), (206, 7, 10, 0), (209, 7, 11, 0), (333, 7, 31, 0), (350, 7, 36, 0), (356, 7, 37, 0), (369, 7, 40, 0), (372, 7, 41, 0), (375, 7, 42, 0), (378, 7, 43, 0), (383, 7, 45, 1), (404, 7, 46, 1)], [(84, 107, 3, 0, true), (98, 111, 1, 0, true), (108, 112, 1, 7, false), (112, 113, 1, 7, false), (115, 114, 2, 7, false), (119, 115, 0, 7, false), (132, 120, 0, 7, false), (135, 140, 0, 7, false), (141, 119, 1, 7, false), (145, 118, 1, 0, true), (149, 122, 1, 7, false), (152, 108, 2, 0, true), (156, 124, 2, 7, false), (160, 123, 2, 7, false), (164, 121, 1, 7, false), (167, 127, 4, 7, false), (171, 126, 2, 7, false), (177, 130, 1, 7, false), (183, 132, 2, 7, false), (187, 134, 0, 7, false), (191, 131, 1, 7, false), (194, 133, 1, 7, false), (197, 137, 2, 7, false), (203, 136, 2, 7, false), (212, 125, 1, 7, false), (215, 129, 1, 7, false), (218, 135, 0, 7, false), (221, 138, 0, 7, false), (224, 139, 0, 7, false), (227, 144, 1, 7, false), (230, 142, 0, 7, false), (233, 143, 0, 7, false), (236, 145, 1, 7, false), (239, 146, 1, 7, false), (242, 147, 3, 7, false), (246, 153, 2, 7, false), (249, 154, 1, 7, false), (252, 151, 0, 7, false), (255, 152, 0, 7, false), (258, 150, 0, 7, false), (261, 155, 0, 7, false), (264, 141, 0, 7, false), (267, 156, 1, 7, false), (270, 158, 1, 7, false), (273, 159, 2, 0, true), (276, 161, 1, 7, false), (279, 128, 2, 7, false), (282, 166, 2, 7, false), (285, 168, 2, 7, false), (288, 167, 1, 7, false), (291, 169, 1, 7, false), (294, 148, 0, 7, false), (297, 174, 1, 7, false), (300, 173, 1, 7, false), (303, 175, 3, 7, false), (306, 149, 2, 7, false), (309, 177, 2, 7, false), (313, 178, 1, 7, false), (317, 179, 2, 7, false), (320, 182, 1, 0, true), (323, 186, 1, 7, false), (326, 185, 1, 0, true), (330, 187, 1, 7, false), (336, 190, 1, 0, true), (339, 191, 2, 7, false), (343, 189, 1, 7, false), (346, 192, 3, 7, false), (353, 193, 1, 7, false), (360, 198, 2, 7, false), (363, 197, 0, 7, false), (366, 199, 0, 7, false), (393, 207, 1, 7, false), (396, 208, 3, 7, false), (399, 210, 1, 7, false), (407, 212, 1, 7, false), (411, 213, 0, 7, false), (416, 214, 0, 7, false)], [(359, 1073741824)], [(381, 1103515245), (387, 12345), (389, 2147483648), (391, 65536), (402, 31), (414, 1499)], [], [])
theorem zt_FM_7 : zm_okF zt_cl zt_gw zt_nw "QuadricFlatsModel" 7 7 2 := ⟨zt_R7, zt_T7, 47, rfl, zt_l7, by decide, Or.inl (zt_in 862 (by decide +kernel) rfl)⟩
theorem zt_FM_13 : zm_okF zt_cl zt_gw zt_nw "QuadricFlatsModel" 13 7 5 := ⟨zt_R7, zt_T7, 47, rfl, zt_l7, by decide, Or.inl (zt_in 865 (by decide +kernel) rfl)⟩
theorem zt_FM_16 : zm_okF zt_cl zt_gw zt_nw "QuadricFlatsModel" 16 7 7 := ⟨zt_R7, zt_T7, 47, rfl, zt_l7, by decide, Or.inl (zt_in 867 (by decide +kernel) rfl)⟩
theorem zt_FM_19 : zm_okF zt_cl zt_gw zt_nw "QuadricFlatsModel" 19 7 8 := ⟨zt_R7, zt_T7, 47, rfl, zt_l7, by decide, Or.inl (zt_in 868 (by decide +kernel) rfl)⟩
theorem zt_FM_22 : zm_okF zt_cl zt_gw zt_nw "QuadricFlatsModel" 22 7 9 := ⟨zt_R7, zt_T7, 47, rfl, zt_l7, by decide, Or.inl (zt_in 869 (by decide +kernel) rfl)⟩
theorem zt_FM_26 : zm_okF zt_cl zt_gw zt_nw "QuadricFlatsModel" 26 7 13 := ⟨zt_R7, zt_T7, 47, rfl, zt_l7, by decide, Or.inl (zt_in 873 (by decide +kernel) rfl)⟩
theorem zt_FM_29 : zm_okF zt_cl zt_gw zt_nw "QuadricFlatsModel" 29 7 15 := ⟨zt_R7, zt_T7, 47, rfl, zt_l7, by decide, Or.inl (zt_in 875 (by decide +kernel) rfl)⟩
theorem zt_FM_32 : zm_okF zt_cl zt_gw zt_nw "QuadricFlatsModel" 32 7 20 := ⟨zt_R7, zt_T7, 47, rfl, zt_l7, by decide, Or.inl (zt_in 880 (by decide +kernel) rfl)⟩
theorem zt_FM_35 : zm_okF zt_cl zt_gw zt_nw "QuadricFlatsModel" 35 7 21 := ⟨zt_R7, zt_T7, 47, rfl, zt_l7, by decide, Or.inl (zt_in 881 (by decide +kernel) rfl)⟩
theorem zt_FM_38 : zm_okF zt_cl zt_gw zt_nw "QuadricFlatsModel" 38 7 22 := ⟨zt_R7, zt_T7, 47, rfl, zt_l7, by decide, Or.inl (zt_in 882 (by decide +kernel) rfl)⟩
theorem zt_FM_41 : zm_okF zt_cl zt_gw zt_nw "QuadricFlatsModel" 41 7 23 := ⟨zt_R7, zt_T7, 47, rfl, zt_l7, by decide, Or.inl (zt_in 883 (by decide +kernel) rfl)⟩
theorem zt_FM_44 : zm_okF zt_cl zt_gw zt_nw "QuadricFlatsModel" 44 7 24 := ⟨zt_R7, zt_T7, 47, rfl, zt_l7, by decide, Or.inl (zt_in 884 (by decide +kernel) rfl)⟩
theorem zt_FM_47 : zm_okF zt_cl zt_gw zt_nw "QuadricFlatsModel" 47 7 26 := ⟨zt_R7, zt_T7, 47, rfl, zt_l7, by decide, Or.inl (zt_in 886 (by decide +kernel) rfl)⟩
theorem zt_FM_50 : zm_okF zt_cl zt_gw zt_nw "QuadricFlatsModel" 50 7 27 := ⟨zt_R7, zt_T7, 47, rfl, zt_l7, by decide, Or.inl (zt_in 887 (by decide +kernel) rfl)⟩
theorem zt_FM_53 : zm_okF zt_cl zt_gw zt_nw "QuadricFlatsModel" 53 7 28 := ⟨zt_R7, zt_T7, 47, rfl, zt_l7, by decide, Or.inl (zt_in 888 (by decide +kernel) rfl)⟩
theorem zt_FM_56 : zm_okF zt_cl zt_gw zt_nw "QuadricFlatsModel" 56 7 29 := ⟨zt_R7, zt_T7, 47, rfl, zt_l7, by decide, Or.inl (zt_in 889 (by decide +kernel) rfl)⟩
theorem zt_FM_59 : zm_okF zt_cl zt_gw zt_nw "QuadricFlatsModel" 59 7 30 := ⟨zt_R7, zt_T7, 47, rfl, zt_l7, by decide, Or.inl (zt_in 890 (by decide +kernel) rfl)⟩
theorem zt_FM_62 : zm_okF zt_cl zt_gw zt_nw "QuadricFlatsModel" 62 7 32 := ⟨zt_R7, zt_T7, 47, rfl, zt_l7, by decide, Or.inl (zt_in 892 (by decide +kernel) rfl)⟩
theorem zt_FM_66 : zm_okF zt_cl zt_gw zt_nw "QuadricFlatsModel" 66 7 33 := ⟨zt_R7, zt_T7, 47, rfl, zt_l7, by decide, Or.inl (zt_in 893 (by decide +kernel) rfl)⟩
theorem zt_FM_69 : zm_okF zt_cl zt_gw zt_nw "QuadricFlatsModel" 69 7 34 := ⟨zt_R7, zt_T7, 47, rfl, zt_l7, by decide, Or.inl (zt_in 894 (by decide +kernel) rfl)⟩
theorem zt_FM_72 : zm_okF zt_cl zt_gw zt_nw "QuadricFlatsModel" 72 7 35 := ⟨zt_R7, zt_T7, 47, rfl, zt_l7, by decide, Or.inl (zt_in 895 (by decide +kernel) rfl)⟩
theorem zt_FM_75 : zm_okF zt_cl zt_gw zt_nw "QuadricFlatsModel" 75 7 38 := ⟨zt_R7, zt_T7, 47, rfl, zt_l7, by decide, Or.inl (zt_in 898 (by decide +kernel) rfl)⟩
theorem zt_FM_78 : zm_okF zt_cl zt_gw zt_nw "QuadricFlatsModel" 78 7 39 := ⟨zt_R7, zt_T7, 47, rfl, zt_l7, by decide, Or.inl (zt_in 899 (by decide +kernel) rfl)⟩
theorem zt_FM_81 : zm_okF zt_cl zt_gw zt_nw "QuadricFlatsModel" 81 7 44 := ⟨zt_R7, zt_T7, 47, rfl, zt_l7, by decide, Or.inl (zt_in 904 (by decide +kernel) rfl)⟩
theorem zt_FM_88 : zm_okF zt_cl zt_gw zt_nw "QuadricFlatsModel" 88 7 4 := ⟨zt_R7, zt_T7, 47, rfl, zt_l7, by decide, Or.inl (zt_in 864 (by decide +kernel) rfl)⟩
theorem zt_FM_92 : zm_okF zt_cl zt_gw zt_nw "QuadricFlatsModel" 92 7 17 := ⟨zt_R7, zt_T7, 47, rfl, zt_l7, by decide, Or.inl (zt_in 877 (by decide +kernel) rfl)⟩
theorem zt_FM_95 : zm_okF zt_cl zt_gw zt_nw "QuadricFlatsModel" 95 7 16 := ⟨zt_R7, zt_T7, 47, rfl, zt_l7, by decide, Or.inl (zt_in 876 (by decide +kernel) rfl)⟩
theorem zt_FM_102 : zm_okF zt_cl zt_gw zt_nw "QuadricFlatsModel" 102 7 18 := ⟨zt_R7, zt_T7, 47, rfl, zt_l7, by decide, Or.inl (zt_in 878 (by decide +kernel) rfl)⟩
theorem zt_FM_105 : zm_okF zt_cl zt_gw zt_nw "QuadricFlatsModel" 105 7 19 := ⟨zt_R7, zt_T7, 47, rfl, zt_l7, by decide, Or.inl (zt_in 879 (by decide +kernel) rfl)⟩
theorem zt_FM_123 : zm_okF zt_cl zt_gw zt_nw "QuadricFlatsModel" 123 7 0 := ⟨zt_R7, zt_T7, 47, rfl, zt_l7, by decide, Or.inl (zt_in 860 (by decide +kernel) rfl)⟩
theorem zt_FM_126 : zm_okF zt_cl zt_gw zt_nw "QuadricFlatsModel" 126 7 1 := ⟨zt_R7, zt_T7, 47, rfl, zt_l7, by decide, Or.inl (zt_in 861 (by decide +kernel) rfl)⟩
theorem zt_FM_129 : zm_okF zt_cl zt_gw zt_nw "QuadricFlatsModel" 129 7 3 := ⟨zt_R7, zt_T7, 47, rfl, zt_l7, by decide, Or.inl (zt_in 863 (by decide +kernel) rfl)⟩
theorem zt_FM_138 : zm_okF zt_cl zt_gw zt_nw "QuadricFlatsModel" 138 7 6 := ⟨zt_R7, zt_T7, 47, rfl, zt_l7, by decide, Or.inl (zt_in 866 (by decide +kernel) rfl)⟩
theorem zt_FM_174 : zm_okF zt_cl zt_gw zt_nw "QuadricFlatsModel" 174 7 25 := ⟨zt_R7, zt_T7, 47, rfl, zt_l7, by decide, Or.inl (zt_in 885 (by decide +kernel) rfl)⟩
theorem zt_FM_180 : zm_okF zt_cl zt_gw zt_nw "QuadricFlatsModel" 180 7 12 := ⟨zt_R7, zt_T7, 47, rfl, zt_l7, by decide, Or.inl (zt_in 872 (by decide +kernel) rfl)⟩
theorem zt_FM_200 : zm_okF zt_cl zt_gw zt_nw "QuadricFlatsModel" 200 7 14 := ⟨zt_R7, zt_T7, 47, rfl, zt_l7, by decide, Or.inl (zt_in 874 (by decide +kernel) rfl)⟩
theorem zt_FM_206 : zm_okF zt_cl zt_gw zt_nw "QuadricFlatsModel" 206 7 10 := ⟨zt_R7, zt_T7, 47, rfl, zt_l7, by decide, Or.inl (zt_in 870 (by decide +kernel) rfl)⟩
theorem zt_FM_209 : zm_okF zt_cl zt_gw zt_nw "QuadricFlatsModel" 209 7 11 := ⟨zt_R7, zt_T7, 47, rfl, zt_l7, by decide, Or.inl (zt_in 871 (by decide +kernel) rfl)⟩
theorem zt_FM_333 : zm_okF zt_cl zt_gw zt_nw "QuadricFlatsModel" 333 7 31 := ⟨zt_R7, zt_T7, 47, rfl, zt_l7, by decide, Or.inl (zt_in 891 (by decide +kernel) rfl)⟩
theorem zt_FM_350 : zm_okF zt_cl zt_gw zt_nw "QuadricFlatsModel" 350 7 36 := ⟨zt_R7, zt_T7, 47, rfl, zt_l7, by decide, Or.inl (zt_in 896 (by decide +kernel) rfl)⟩
theorem zt_FM_356 : zm_okF zt_cl zt_gw zt_nw "QuadricFlatsModel" 356 7 37 := ⟨zt_R7, zt_T7, 47, rfl, zt_l7, by decide, Or.inl (zt_in 897 (by decide +kernel) rfl)⟩
theorem zt_FM_369 : zm_okF zt_cl zt_gw zt_nw "QuadricFlatsModel" 369 7 40 := ⟨zt_R7, zt_T7, 47, rfl, zt_l7, by decide, Or.inl (zt_in 900 (by decide +kernel) rfl)⟩
theorem zt_FM_372 : zm_okF zt_cl zt_gw zt_nw "QuadricFlatsModel" 372 7 41 := ⟨zt_R7, zt_T7, 47, rfl, zt_l7, by decide, Or.inl (zt_in 901 (by decide +kernel) rfl)⟩
theorem zt_FM_375 : zm_okF zt_cl zt_gw zt_nw "QuadricFlatsModel" 375 7 42 := ⟨zt_R7, zt_T7, 47, rfl, zt_l7, by decide, Or.inl (zt_in 902 (by decide +kernel) rfl)⟩
theorem zt_FM_378 : zm_okF zt_cl zt_gw zt_nw "QuadricFlatsModel" 378 7 43 := ⟨zt_R7, zt_T7, 47, rfl, zt_l7, by decide, Or.inl (zt_in 903 (by decide +kernel) rfl)⟩
theorem zt_FM_383 : zm_okF zt_cl zt_gw zt_nw "QuadricFlatsModel" 383 7 45 := ⟨zt_R7, zt_T7, 47, rfl, zt_l7, by decide, Or.inl (zt_in 905 (by decide +kernel) rfl)⟩
theorem zt_FM_404 : zm_okF zt_cl zt_gw zt_nw "QuadricFlatsModel" 404 7 46 := ⟨zt_R7, zt_T7, 47, rfl, zt_l7, by decide, Or.inl (zt_in 906 (by decide +kernel) rfl)⟩
theorem zt_PM_88 : zm_okP zt_cl zt_gw zt_nw "QuadricFlatsModel" 88 7 4 (zm_ft 0) := ⟨⟨zt_R7, zt_T7, 47, rfl, zt_l7, by decide, Or.inl (zt_in 864 (by decide +kernel) rfl)⟩, zt_R7, zt_T7, 47, rfl, zt_y7, zt_yo7, zt_n7, by decide, by decide +kernel⟩
theorem zt_PM_92 : zm_okP zt_cl zt_gw zt_nw "QuadricFlatsModel" 92 7 17 (zm_ft 0) := ⟨⟨zt_R7, zt_T7, 47, rfl, zt_l7, by decide, Or.inl (zt_in 877 (by decide +kernel) rfl)⟩, zt_R7, zt_T7, 47, rfl, zt_y7, zt_yo7, zt_n7, by decide, by decide +kernel⟩
theorem zt_PM_95 : zm_okP zt_cl zt_gw zt_nw "QuadricFlatsModel" 95 7 16 (zm_ft 0) := ⟨⟨zt_R7, zt_T7, 47, rfl, zt_l7, by decide, Or.inl (zt_in 876 (by decide +kernel) rfl)⟩, zt_R7, zt_T7, 47, rfl, zt_y7, zt_yo7, zt_n7, by decide, by decide +kernel⟩
theorem zt_PM_102 : zm_okP zt_cl zt_gw zt_nw "QuadricFlatsModel" 102 7 18 (zm_ft 0) := ⟨⟨zt_R7, zt_T7, 47, rfl, zt_l7, by decide, Or.inl (zt_in 878 (by decide +kernel) rfl)⟩, zt_R7, zt_T7, 47, rfl, zt_y7, zt_yo7, zt_n7, by decide, by decide +kernel⟩
theorem zt_PM_105 : zm_okP zt_cl zt_gw zt_nw "QuadricFlatsModel" 105 7 19 (zm_ft 0) := ⟨⟨zt_R7, zt_T7, 47, rfl, zt_l7, by decide, Or.inl (zt_in 879 (by decide +kernel) rfl)⟩, zt_R7, zt_T7, 47, rfl, zt_y7, zt_yo7, zt_n7, by decide, by decide +kernel⟩
theorem zt_PM_123 : zm_okP zt_cl zt_gw zt_nw "QuadricFlatsModel" 123 7 0 (zm_ft 0) := ⟨⟨zt_R7, zt_T7, 47, rfl, zt_l7, by decide, Or.inl (zt_in 860 (by decide +kernel) rfl)⟩, zt_R7, zt_T7, 47, rfl, zt_y7, zt_yo7, zt_n7, by decide, by decide +kernel⟩
theorem zt_PM_126 : zm_okP zt_cl zt_gw zt_nw "QuadricFlatsModel" 126 7 1 (zm_ft 0) := ⟨⟨zt_R7, zt_T7, 47, rfl, zt_l7, by decide, Or.inl (zt_in 861 (by decide +kernel) rfl)⟩, zt_R7, zt_T7, 47, rfl, zt_y7, zt_yo7, zt_n7, by decide, by decide +kernel⟩
theorem zt_PM_129 : zm_okP zt_cl zt_gw zt_nw "QuadricFlatsModel" 129 7 3 (zm_ft 0) := ⟨⟨zt_R7, zt_T7, 47, rfl, zt_l7, by decide, Or.inl (zt_in 863 (by decide +kernel) rfl)⟩, zt_R7, zt_T7, 47, rfl, zt_y7, zt_yo7, zt_n7, by decide, by decide +kernel⟩
theorem zt_PM_138 : zm_okP zt_cl zt_gw zt_nw "QuadricFlatsModel" 138 7 6 (zm_ft 0) := ⟨⟨zt_R7, zt_T7, 47, rfl, zt_l7, by decide, Or.inl (zt_in 866 (by decide +kernel) rfl)⟩, zt_R7, zt_T7, 47, rfl, zt_y7, zt_yo7, zt_n7, by decide, by decide +kernel⟩
theorem zt_PM_174 : zm_okP zt_cl zt_gw zt_nw "QuadricFlatsModel" 174 7 25 (zm_ft 0) := ⟨⟨zt_R7, zt_T7, 47, rfl, zt_l7, by decide, Or.inl (zt_in 885 (by decide +kernel) rfl)⟩, zt_R7, zt_T7, 47, rfl, zt_y7, zt_yo7, zt_n7, by decide, by decide +kernel⟩
theorem zt_PM_180 : zm_okP zt_cl zt_gw zt_nw "QuadricFlatsModel" 180 7 12 (zm_ft 0) := ⟨⟨zt_R7, zt_T7, 47, rfl, zt_l7, by decide, Or.inl (zt_in 872 (by decide +kernel) rfl)⟩, zt_R7, zt_T7, 47, rfl, zt_y7, zt_yo7, zt_n7, by decide, by decide +kernel⟩
theorem zt_PM_200 : zm_okP zt_cl zt_gw zt_nw "QuadricFlatsModel" 200 7 14 (zm_ft 0) := ⟨⟨zt_R7, zt_T7, 47, rfl, zt_l7, by decide, Or.inl (zt_in 874 (by decide +kernel) rfl)⟩, zt_R7, zt_T7, 47, rfl, zt_y7, zt_yo7, zt_n7, by decide, by decide +kernel⟩
theorem zt_PM_206 : zm_okP zt_cl zt_gw zt_nw "QuadricFlatsModel" 206 7 10 (zm_ft 0) := ⟨⟨zt_R7, zt_T7, 47, rfl, zt_l7, by decide, Or.inl (zt_in 870 (by decide +kernel) rfl)⟩, zt_R7, zt_T7, 47, rfl, zt_y7, zt_yo7, zt_n7, by decide, by decide +kernel⟩
theorem zt_PM_209 : zm_okP zt_cl zt_gw zt_nw "QuadricFlatsModel" 209 7 11 (zm_ft 0) := ⟨⟨zt_R7, zt_T7, 47, rfl, zt_l7, by decide, Or.inl (zt_in 871 (by decide +kernel) rfl)⟩, zt_R7, zt_T7, 47, rfl, zt_y7, zt_yo7, zt_n7, by decide, by decide +kernel⟩
theorem zt_PM_333 : zm_okP zt_cl zt_gw zt_nw "QuadricFlatsModel" 333 7 31 (zm_ft 0) := ⟨⟨zt_R7, zt_T7, 47, rfl, zt_l7, by decide, Or.inl (zt_in 891 (by decide +kernel) rfl)⟩, zt_R7, zt_T7, 47, rfl, zt_y7, zt_yo7, zt_n7, by decide, by decide +kernel⟩
theorem zt_PM_350 : zm_okP zt_cl zt_gw zt_nw "QuadricFlatsModel" 350 7 36 (zm_ft 0) := ⟨⟨zt_R7, zt_T7, 47, rfl, zt_l7, by decide, Or.inl (zt_in 896 (by decide +kernel) rfl)⟩, zt_R7, zt_T7, 47, rfl, zt_y7, zt_yo7, zt_n7, by decide, by decide +kernel⟩
theorem zt_PM_356 : zm_okP zt_cl zt_gw zt_nw "QuadricFlatsModel" 356 7 37 (zm_ft 0) := ⟨⟨zt_R7, zt_T7, 47, rfl, zt_l7, by decide, Or.inl (zt_in 897 (by decide +kernel) rfl)⟩, zt_R7, zt_T7, 47, rfl, zt_y7, zt_yo7, zt_n7, by decide, by decide +kernel⟩
theorem zt_PM_369 : zm_okP zt_cl zt_gw zt_nw "QuadricFlatsModel" 369 7 40 (zm_ft 0) := ⟨⟨zt_R7, zt_T7, 47, rfl, zt_l7, by decide, Or.inl (zt_in 900 (by decide +kernel) rfl)⟩, zt_R7, zt_T7, 47, rfl, zt_y7, zt_yo7, zt_n7, by decide, by decide +kernel⟩
theorem zt_PM_372 : zm_okP zt_cl zt_gw zt_nw "QuadricFlatsModel" 372 7 41 (zm_ft 0) := ⟨⟨zt_R7, zt_T7, 47, rfl, zt_l7, by decide, Or.inl (zt_in 901 (by decide +kernel) rfl)⟩, zt_R7, zt_T7, 47, rfl, zt_y7, zt_yo7, zt_n7, by decide, by decide +kernel⟩
theorem zt_PM_375 : zm_okP zt_cl zt_gw zt_nw "QuadricFlatsModel" 375 7 42 (zm_ft 0) := ⟨⟨zt_R7, zt_T7, 47, rfl, zt_l7, by decide, Or.inl (zt_in 902 (by decide +kernel) rfl)⟩, zt_R7, zt_T7, 47, rfl, zt_y7, zt_yo7, zt_n7, by decide, by decide +kernel⟩
theorem zt_PM_378 : zm_okP zt_cl zt_gw zt_nw "QuadricFlatsModel" 378 7 43 (zm_ft 0) := ⟨⟨zt_R7, zt_T7, 47, rfl, zt_l7, by decide, Or.inl (zt_in 903 (by decide +kernel) rfl)⟩, zt_R7, zt_T7, 47, rfl, zt_y7, zt_yo7, zt_n7, by decide, by decide +kernel⟩
theorem zt_PM_383 : zm_okP zt_cl zt_gw zt_nw "QuadricFlatsModel" 383 7 45 (zm_ft 1) := ⟨⟨zt_R7, zt_T7, 47, rfl, zt_l7, by decide, Or.inl (zt_in 905 (by decide +kernel) rfl)⟩, zt_R7, zt_T7, 47, rfl, zt_y7, zt_yo7, zt_n7, by decide, by decide +kernel⟩
theorem zt_PM_404 : zm_okP zt_cl zt_gw zt_nw "QuadricFlatsModel" 404 7 46 (zm_ft 1) := ⟨⟨zt_R7, zt_T7, 47, rfl, zt_l7, by decide, Or.inl (zt_in 906 (by decide +kernel) rfl)⟩, zt_R7, zt_T7, 47, rfl, zt_y7, zt_yo7, zt_n7, by decide, by decide +kernel⟩
theorem zt_GM_84 : zm_okG zt_get zt_gw zt_nw "QuadricFlatsModel" 84 107 3 0 true := ⟨zt_M_within, rfl, Or.inl (zt_in 1007 (by decide +kernel) rfl), rfl, rfl, fun _ => by contradiction⟩
theorem zt_GM_98 : zm_okG zt_get zt_gw zt_nw "QuadricFlatsModel" 98 111 1 0 true := ⟨zt_M_mostOf, rfl, Or.inl (zt_in 1030 (by decide +kernel) rfl), rfl, rfl, fun _ => by contradiction⟩
theorem zt_GM_108 : zm_okG zt_get zt_gw zt_nw "QuadricFlatsModel" 108 112 1 7 false := ⟨zt_M_takesDigit, rfl, Or.inl (zt_in 1026 (by decide +kernel) rfl), rfl, rfl, fun _ => rfl⟩
theorem zt_GM_112 : zm_okG zt_get zt_gw zt_nw "QuadricFlatsModel" 112 113 1 7 false := ⟨zt_M_takesSlash, rfl, Or.inl (zt_in 1033 (by decide +kernel) rfl), rfl, rfl, fun _ => rfl⟩
theorem zt_GM_115 : zm_okG zt_get zt_gw zt_nw "QuadricFlatsModel" 115 114 2 7 false := ⟨zt_M_takes, rfl, Or.inl (zt_in 1022 (by decide +kernel) rfl), rfl, rfl, fun _ => rfl⟩
theorem zt_GM_119 : zm_okG zt_get zt_gw zt_nw "QuadricFlatsModel" 119 115 0 7 false := ⟨zt_M_read, rfl, Or.inl (zt_in 1018 (by decide +kernel) rfl), rfl, rfl, fun _ => rfl⟩
theorem zt_GM_132 : zm_okG zt_get zt_gw zt_nw "QuadricFlatsModel" 132 120 0 7 false := ⟨zt_M_layPoints, rfl, Or.inl (zt_in 1041 (by decide +kernel) rfl), rfl, rfl, fun _ => rfl⟩
theorem zt_GM_135 : zm_okG zt_get zt_gw zt_nw "QuadricFlatsModel" 135 140 0 7 false := ⟨zt_M_layNew, rfl, Or.inl (zt_in 1052 (by decide +kernel) rfl), rfl, rfl, fun _ => rfl⟩
theorem zt_GM_141 : zm_okG zt_get zt_gw zt_nw "QuadricFlatsModel" 141 119 1 7 false := ⟨zt_M_layRow, rfl, Or.inl (zt_in 1045 (by decide +kernel) rfl), rfl, rfl, fun _ => rfl⟩
theorem zt_GM_145 : zm_okG zt_get zt_gw zt_nw "QuadricFlatsModel" 145 118 1 0 true := ⟨zt_M_firstOf, rfl, Or.inl (zt_in 1049 (by decide +kernel) rfl), rfl, rfl, fun _ => by contradiction⟩
theorem zt_GM_149 : zm_okG zt_get zt_gw zt_nw "QuadricFlatsModel" 149 122 1 7 false := ⟨zt_M_valueOf, rfl, Or.inl (zt_in 1068 (by decide +kernel) rfl), rfl, rfl, fun _ => rfl⟩
theorem zt_GM_152 : zm_okG zt_get zt_gw zt_nw "QuadricFlatsModel" 152 108 2 0 true := ⟨zt_M_mod, rfl, Or.inl (zt_in 1084 (by decide +kernel) rfl), rfl, rfl, fun _ => by contradiction⟩
theorem zt_GM_156 : zm_okG zt_get zt_gw zt_nw "QuadricFlatsModel" 156 124 2 7 false := ⟨zt_M_take, rfl, Or.inl (zt_in 1064 (by decide +kernel) rfl), rfl, rfl, fun _ => rfl⟩
theorem zt_GM_160 : zm_okG zt_get zt_gw zt_nw "QuadricFlatsModel" 160 123 2 7 false := ⟨zt_M_polarOf, rfl, Or.inl (zt_in 1080 (by decide +kernel) rfl), rfl, rfl, fun _ => rfl⟩
theorem zt_GM_164 : zm_okG zt_get zt_gw zt_nw "QuadricFlatsModel" 164 121 1 7 false := ⟨zt_M_pointOf, rfl, Or.inl (zt_in 1103 (by decide +kernel) rfl), rfl, rfl, fun _ => rfl⟩
theorem zt_GM_167 : zm_okG zt_get zt_gw zt_nw "QuadricFlatsModel" 167 127 4 7 false := ⟨zt_M_mix, rfl, Or.inl (zt_in 1099 (by decide +kernel) rfl), rfl, rfl, fun _ => rfl⟩
theorem zt_GM_171 : zm_okG zt_get zt_gw zt_nw "QuadricFlatsModel" 171 126 2 7 false := ⟨zt_M_polarAt, rfl, Or.inl (zt_in 1076 (by decide +kernel) rfl), rfl, rfl, fun _ => rfl⟩
theorem zt_GM_177 : zm_okG zt_get zt_gw zt_nw "QuadricFlatsModel" 177 130 1 7 false := ⟨zt_M_addTo, rfl, Or.inl (zt_in 1095 (by decide +kernel) rfl), rfl, rfl, fun _ => rfl⟩
theorem zt_GM_183 : zm_okG zt_get zt_gw zt_nw "QuadricFlatsModel" 183 132 2 7 false := ⟨zt_M_layLine, rfl, Or.inl (zt_in 1091 (by decide +kernel) rfl), rfl, rfl, fun _ => rfl⟩
theorem zt_GM_187 : zm_okG zt_get zt_gw zt_nw "QuadricFlatsModel" 187 134 0 7 false := ⟨zt_M_areOn, rfl, Or.inl (zt_in 1107 (by decide +kernel) rfl), rfl, rfl, fun _ => rfl⟩
theorem zt_GM_191 : zm_okG zt_get zt_gw zt_nw "QuadricFlatsModel" 191 131 1 7 false := ⟨zt_M_isIn, rfl, Or.inl (zt_in 1119 (by decide +kernel) rfl), rfl, rfl, fun _ => rfl⟩
theorem zt_GM_194 : zm_okG zt_get zt_gw zt_nw "QuadricFlatsModel" 194 133 1 7 false := ⟨zt_M_widen, rfl, Or.inl (zt_in 1123 (by decide +kernel) rfl), rfl, rfl, fun _ => rfl⟩
theorem zt_GM_197 : zm_okG zt_get zt_gw zt_nw "QuadricFlatsModel" 197 137 2 7 false := ⟨zt_M_isOfLine, rfl, Or.inl (zt_in 1127 (by decide +kernel) rfl), rfl, rfl, fun _ => rfl⟩
theorem zt_GM_203 : zm_okG zt_get zt_gw zt_nw "QuadricFlatsModel" 203 136 2 7 false := ⟨zt_M_layPlane, rfl, Or.inl (zt_in 1115 (by decide +kernel) rfl), rfl, rfl, fun _ => rfl⟩
theorem zt_GM_212 : zm_okG zt_get zt_gw zt_nw "QuadricFlatsModel" 212 125 1 7 false := ⟨zt_M_valueAt, rfl, Or.inl (zt_in 1060 (by decide +kernel) rfl), rfl, rfl, fun _ => rfl⟩
theorem zt_GM_215 : zm_okG zt_get zt_gw zt_nw "QuadricFlatsModel" 215 129 1 7 false := ⟨zt_M_isSingular, rfl, Or.inl (zt_in 1072 (by decide +kernel) rfl), rfl, rfl, fun _ => rfl⟩
theorem zt_GM_218 : zm_okG zt_get zt_gw zt_nw "QuadricFlatsModel" 218 135 0 7 false := ⟨zt_M_layLines, rfl, Or.inl (zt_in 1087 (by decide +kernel) rfl), rfl, rfl, fun _ => rfl⟩
theorem zt_GM_221 : zm_okG zt_get zt_gw zt_nw "QuadricFlatsModel" 221 138 0 7 false := ⟨zt_M_layPlanes, rfl, Or.inl (zt_in 1111 (by decide +kernel) rfl), rfl, rfl, fun _ => rfl⟩
theorem zt_GM_224 : zm_okG zt_get zt_gw zt_nw "QuadricFlatsModel" 224 139 0 7 false := ⟨zt_M_layForm, rfl, Or.inl (zt_in 1056 (by decide +kernel) rfl), rfl, rfl, fun _ => rfl⟩
theorem zt_GM_227 : zm_okG zt_get zt_gw zt_nw "QuadricFlatsModel" 227 144 1 7 false := ⟨zt_M_onAt, rfl, Or.inl (zt_in 1250 (by decide +kernel) rfl), rfl, rfl, fun _ => rfl⟩
theorem zt_GM_230 : zm_okG zt_get zt_gw zt_nw "QuadricFlatsModel" 230 142 0 7 false := ⟨zt_M_isSound, rfl, Or.inl (zt_in 1171 (by decide +kernel) rfl), rfl, rfl, fun _ => rfl⟩
theorem zt_GM_233 : zm_okG zt_get zt_gw zt_nw "QuadricFlatsModel" 233 143 0 7 false := ⟨zt_M_index, rfl, Or.inl (zt_in 1147 (by decide +kernel) rfl), rfl, rfl, fun _ => rfl⟩
theorem zt_GM_236 : zm_okG zt_get zt_gw zt_nw "QuadricFlatsModel" 236 145 1 7 false := ⟨zt_M_flatsOf, rfl, Or.inl (zt_in 1234 (by decide +kernel) rfl), rfl, rfl, fun _ => rfl⟩
theorem zt_GM_239 : zm_okG zt_get zt_gw zt_nw "QuadricFlatsModel" 239 146 1 7 false := ⟨zt_M_sizeOf, rfl, Or.inl (zt_in 1242 (by decide +kernel) rfl), rfl, rfl, fun _ => rfl⟩
theorem zt_GM_242 : zm_okG zt_get zt_gw zt_nw "QuadricFlatsModel" 242 147 3 7 false := ⟨zt_M_pointIn, rfl, Or.inl (zt_in 1246 (by decide +kernel) rfl), rfl, rfl, fun _ => rfl⟩
theorem zt_GM_246 : zm_okG zt_get zt_gw zt_nw "QuadricFlatsModel" 246 153 2 7 false := ⟨zt_M_swapLines, rfl, Or.inl (zt_in 1163 (by decide +kernel) rfl), rfl, rfl, fun _ => rfl⟩
theorem zt_GM_249 : zm_okG zt_get zt_gw zt_nw "QuadricFlatsModel" 249 154 1 7 false := ⟨zt_M_clearBelow, rfl, Or.inl (zt_in 1167 (by decide +kernel) rfl), rfl, rfl, fun _ => rfl⟩
theorem zt_GM_252 : zm_okG zt_get zt_gw zt_nw "QuadricFlatsModel" 252 151 0 7 false := ⟨zt_M_layMatrix, rfl, Or.inl (zt_in 1155 (by decide +kernel) rfl), rfl, rfl, fun _ => rfl⟩
theorem zt_GM_255 : zm_okG zt_get zt_gw zt_nw "QuadricFlatsModel" 255 152 0 7 false := ⟨zt_M_determinant, rfl, Or.inl (zt_in 1159 (by decide +kernel) rfl), rfl, rfl, fun _ => rfl⟩
theorem zt_GM_258 : zm_okG zt_get zt_gw zt_nw "QuadricFlatsModel" 258 150 0 7 false := ⟨zt_M_kind, rfl, Or.inl (zt_in 1143 (by decide +kernel) rfl), rfl, rfl, fun _ => rfl⟩
theorem zt_GM_261 : zm_okG zt_get zt_gw zt_nw "QuadricFlatsModel" 261 155 0 7 false := ⟨zt_M_disc, rfl, Or.inl (zt_in 1151 (by decide +kernel) rfl), rfl, rfl, fun _ => rfl⟩
theorem zt_GM_264 : zm_okG zt_get zt_gw zt_nw "QuadricFlatsModel" 264 141 0 7 false := ⟨zt_M_isForm, rfl, Or.inl (zt_in 1135 (by decide +kernel) rfl), rfl, rfl, fun _ => rfl⟩
theorem zt_GM_267 : zm_okG zt_get zt_gw zt_nw "QuadricFlatsModel" 267 156 1 7 false := ⟨zt_M_aboutNow, rfl, Or.inl (zt_in 1139 (by decide +kernel) rfl), rfl, rfl, fun _ => rfl⟩
theorem zt_GM_270 : zm_okG zt_get zt_gw zt_nw "QuadricFlatsModel" 270 158 1 7 false := ⟨zt_M_isVariable, rfl, Or.inl (zt_in 1179 (by decide +kernel) rfl), rfl, rfl, fun _ => rfl⟩
theorem zt_GM_273 : zm_okG zt_get zt_gw zt_nw "QuadricFlatsModel" 273 159 2 0 true := ⟨zt_M_placeOf, rfl, Or.inl (zt_in 1183 (by decide +kernel) rfl), rfl, rfl, fun _ => by contradiction⟩
theorem zt_GM_276 : zm_okG zt_get zt_gw zt_nw "QuadricFlatsModel" 276 161 1 7 false := ⟨zt_M_isPoint, rfl, Or.inl (zt_in 1190 (by decide +kernel) rfl), rfl, rfl, fun _ => rfl⟩
theorem zt_GM_279 : zm_okG zt_get zt_gw zt_nw "QuadricFlatsModel" 279 128 2 7 false := ⟨zt_M_isJoined, rfl, Or.inl (zt_in 1206 (by decide +kernel) rfl), rfl, rfl, fun _ => rfl⟩
theorem zt_GM_282 : zm_okG zt_get zt_gw zt_nw "QuadricFlatsModel" 282 166 2 7 false := ⟨zt_M_isInSection, rfl, Or.inl (zt_in 1218 (by decide +kernel) rfl), rfl, rfl, fun _ => rfl⟩
theorem zt_GM_285 : zm_okG zt_get zt_gw zt_nw "QuadricFlatsModel" 285 168 2 7 false := ⟨zt_M_isTouched, rfl, Or.inl (zt_in 1226 (by decide +kernel) rfl), rfl, rfl, fun _ => rfl⟩
theorem zt_GM_288 : zm_okG zt_get zt_gw zt_nw "QuadricFlatsModel" 288 167 1 7 false := ⟨zt_M_sectionOn, rfl, Or.inl (zt_in 1214 (by decide +kernel) rfl), rfl, rfl, fun _ => rfl⟩
theorem zt_GM_291 : zm_okG zt_get zt_gw zt_nw "QuadricFlatsModel" 291 169 1 7 false := ⟨zt_M_touches, rfl, Or.inl (zt_in 1222 (by decide +kernel) rfl), rfl, rfl, fun _ => rfl⟩
theorem zt_GM_294 : zm_okG zt_get zt_gw zt_nw "QuadricFlatsModel" 294 148 0 7 false := ⟨zt_M_greatestMany, rfl, Or.inl (zt_in 1266 (by decide +kernel) rfl), rfl, rfl, fun _ => rfl⟩
theorem zt_GM_297 : zm_okG zt_get zt_gw zt_nw "QuadricFlatsModel" 297 174 1 7 false := ⟨zt_M_isOnPoint, rfl, Or.inl (zt_in 1258 (by decide +kernel) rfl), rfl, rfl, fun _ => rfl⟩
theorem zt_GM_300 : zm_okG zt_get zt_gw zt_nw "QuadricFlatsModel" 300 173 1 7 false := ⟨zt_M_isGreatest, rfl, Or.inl (zt_in 1262 (by decide +kernel) rfl), rfl, rfl, fun _ => rfl⟩
theorem zt_GM_303 : zm_okG zt_get zt_gw zt_nw "QuadricFlatsModel" 303 175 3 7 false := ⟨zt_M_nearNow, rfl, Or.inl (zt_in 1270 (by decide +kernel) rfl), rfl, rfl, fun _ => rfl⟩
theorem zt_GM_306 : zm_okG zt_get zt_gw zt_nw "QuadricFlatsModel" 306 149 2 7 false := ⟨zt_M_has, rfl, Or.inl (zt_in 1290 (by decide +kernel) rfl), rfl, rfl, fun _ => rfl⟩
theorem zt_GM_309 : zm_okG zt_get zt_gw zt_nw "QuadricFlatsModel" 309 177 2 7 false := ⟨zt_M_reach, rfl, Or.inl (zt_in 1286 (by decide +kernel) rfl), rfl, rfl, fun _ => rfl⟩
theorem zt_GM_313 : zm_okG zt_get zt_gw zt_nw "QuadricFlatsModel" 313 178 1 7 false := ⟨zt_M_reached, rfl, Or.inl (zt_in 1282 (by decide +kernel) rfl), rfl, rfl, fun _ => rfl⟩
theorem zt_GM_317 : zm_okG zt_get zt_gw zt_nw "QuadricFlatsModel" 317 179 2 7 false := ⟨zt_M_choose, rfl, Or.inl (zt_in 1278 (by decide +kernel) rfl), rfl, rfl, fun _ => rfl⟩
theorem zt_GM_320 : zm_okG zt_get zt_gw zt_nw "QuadricFlatsModel" 320 182 1 0 true := ⟨zt_M_isOf, rfl, Or.inl (zt_in 1302 (by decide +kernel) rfl), rfl, rfl, fun _ => by contradiction⟩
theorem zt_GM_323 : zm_okG zt_get zt_gw zt_nw "QuadricFlatsModel" 323 186 1 7 false := ⟨zt_M_wanted, rfl, Or.inl (zt_in 1317 (by decide +kernel) rfl), rfl, rfl, fun _ => rfl⟩
theorem zt_GM_326 : zm_okG zt_get zt_gw zt_nw "QuadricFlatsModel" 326 185 1 0 true := ⟨zt_M_size, rfl, Or.inl (zt_in 1321 (by decide +kernel) rfl), rfl, rfl, fun _ => by contradiction⟩
theorem zt_GM_330 : zm_okG zt_get zt_gw zt_nw "QuadricFlatsModel" 330 187 1 7 false := ⟨zt_M_leftNow, rfl, Or.inl (zt_in 1313 (by decide +kernel) rfl), rfl, rfl, fun _ => rfl⟩
theorem zt_GM_336 : zm_okG zt_get zt_gw zt_nw "QuadricFlatsModel" 336 190 1 0 true := ⟨zt_M_firstMissing, rfl, Or.inl (zt_in 1344 (by decide +kernel) rfl), rfl, rfl, fun _ => by contradiction⟩
theorem zt_GM_339 : zm_okG zt_get zt_gw zt_nw "QuadricFlatsModel" 339 191 2 7 false := ⟨zt_M_nextCan, rfl, Or.inl (zt_in 1340 (by decide +kernel) rfl), rfl, rfl, fun _ => rfl⟩
theorem zt_GM_343 : zm_okG zt_get zt_gw zt_nw "QuadricFlatsModel" 343 189 1 7 false := ⟨zt_M_layCan, rfl, Or.inl (zt_in 1332 (by decide +kernel) rfl), rfl, rfl, fun _ => rfl⟩
theorem zt_GM_346 : zm_okG zt_get zt_gw zt_nw "QuadricFlatsModel" 346 192 3 7 false := ⟨zt_M_waysFrom, rfl, Or.inl (zt_in 1336 (by decide +kernel) rfl), rfl, rfl, fun _ => rfl⟩
theorem zt_GM_353 : zm_okG zt_get zt_gw zt_nw "QuadricFlatsModel" 353 193 1 7 false := ⟨zt_M_finishNow, rfl, Or.inl (zt_in 1328 (by decide +kernel) rfl), rfl, rfl, fun _ => rfl⟩
theorem zt_GM_360 : zm_okG zt_get zt_gw zt_nw "QuadricFlatsModel" 360 198 2 7 false := ⟨zt_M_takeImage, rfl, Or.inl (zt_in 1368 (by decide +kernel) rfl), rfl, rfl, fun _ => rfl⟩
theorem zt_GM_363 : zm_okG zt_get zt_gw zt_nw "QuadricFlatsModel" 363 197 0 7 false := ⟨zt_M_beginImages, rfl, Or.inl (zt_in 1360 (by decide +kernel) rfl), rfl, rfl, fun _ => rfl⟩
theorem zt_GM_366 : zm_okG zt_get zt_gw zt_nw "QuadricFlatsModel" 366 199 0 7 false := ⟨zt_M_change, rfl, Or.inl (zt_in 1364 (by decide +kernel) rfl), rfl, rfl, fun _ => rfl⟩
theorem zt_GM_393 : zm_okG zt_get zt_gw zt_nw "QuadricFlatsModel" 393 207 1 7 false := ⟨zt_M_drawOf, rfl, Or.inl (zt_in 1404 (by decide +kernel) rfl), rfl, rfl, fun _ => rfl⟩
theorem zt_GM_396 : zm_okG zt_get zt_gw zt_nw "QuadricFlatsModel" 396 208 3 7 false := ⟨zt_M_drawnNow, rfl, Or.inl (zt_in 1400 (by decide +kernel) rfl), rfl, rfl, fun _ => rfl⟩
theorem zt_GM_399 : zm_okG zt_get zt_gw zt_nw "QuadricFlatsModel" 399 210 1 7 false := ⟨zt_M_howMany, rfl, Or.inl (zt_in 1416 (by decide +kernel) rfl), rfl, rfl, fun _ => rfl⟩
theorem zt_GM_407 : zm_okG zt_get zt_gw zt_nw "QuadricFlatsModel" 407 212 1 7 false := ⟨zt_M_mixIn, rfl, Or.inl (zt_in 1429 (by decide +kernel) rfl), rfl, rfl, fun _ => rfl⟩
theorem zt_GM_411 : zm_okG zt_get zt_gw zt_nw "QuadricFlatsModel" 411 213 0 7 false := ⟨zt_M_mixFlats, rfl, Or.inl (zt_in 1434 (by decide +kernel) rfl), rfl, rfl, fun _ => rfl⟩
theorem zt_GM_416 : zm_okG zt_get zt_gw zt_nw "QuadricFlatsModel" 416 214 0 7 false := ⟨zt_M_mixForm, rfl, Or.inl (zt_in 1425 (by decide +kernel) rfl), rfl, rfl, fun _ => rfl⟩
theorem zt_KM_359 : Jvm.Cond.constant "QuadricFlatsModel" 359 1073741824 ∈ zt_gw := zt_in 1351 (by decide +kernel) rfl
theorem zt_JM_381 : Jvm.Cond.constantLong "QuadricFlatsModel" 381 1103515245 ∈ zt_gw := zt_in 1408 (by decide +kernel) rfl
theorem zt_JM_387 : Jvm.Cond.constantLong "QuadricFlatsModel" 387 12345 ∈ zt_gw := zt_in 1409 (by decide +kernel) rfl
theorem zt_JM_389 : Jvm.Cond.constantLong "QuadricFlatsModel" 389 2147483648 ∈ zt_gw := zt_in 1410 (by decide +kernel) rfl
theorem zt_JM_391 : Jvm.Cond.constantLong "QuadricFlatsModel" 391 65536 ∈ zt_gw := zt_in 1411 (by decide +kernel) rfl
theorem zt_JM_402 : Jvm.Cond.constantLong "QuadricFlatsModel" 402 31 ∈ zt_gw := zt_in 1433 (by decide +kernel) rfl
theorem zt_JM_414 : Jvm.Cond.constantLong "QuadricFlatsModel" 414 1499 ∈ zt_gw := zt_in 1424 (by decide +kernel) rfl
theorem zt_okM : zm_okX zt_get zt_cl zt_gw zt_nw "QuadricFlatsModel" zt_XM := ⟨List.forall_mem_cons.mpr ⟨zt_FM_7, List.forall_mem_cons.mpr ⟨zt_FM_13, List.forall_mem_cons.mpr ⟨zt_FM_16, List.forall_mem_cons.mpr ⟨zt_FM_19, List.forall_mem_cons.mpr ⟨zt_FM_22, List.forall_mem_cons.mpr ⟨zt_FM_26, List.forall_mem_cons.mpr ⟨zt_FM_29, List.forall_mem_cons.mpr ⟨zt_FM_32, List.forall_mem_cons.mpr ⟨zt_FM_35, List.forall_mem_cons.mpr ⟨zt_FM_38, List.forall_mem_cons.mpr ⟨zt_FM_41, List.forall_mem_cons.mpr ⟨zt_FM_44, List.forall_mem_cons.mpr ⟨zt_FM_47, List.forall_mem_cons.mpr ⟨zt_FM_50, List.forall_mem_cons.mpr ⟨zt_FM_53, List.forall_mem_cons.mpr ⟨zt_FM_56, List.forall_mem_cons.mpr ⟨zt_FM_59, List.forall_mem_cons.mpr ⟨zt_FM_62, List.forall_mem_cons.mpr ⟨zt_FM_66, List.forall_mem_cons.mpr ⟨zt_FM_69, List.forall_mem_cons.mpr ⟨zt_FM_72, List.forall_mem_cons.mpr ⟨zt_FM_75, List.forall_mem_cons.mpr ⟨zt_FM_78, List.forall_mem_cons.mpr ⟨zt_FM_81, List.forall_mem_cons.mpr ⟨zt_FM_88, List.forall_mem_cons.mpr ⟨zt_FM_92, List.forall_mem_cons.mpr ⟨zt_FM_95, List.forall_mem_cons.mpr ⟨zt_FM_102, List.forall_mem_cons.mpr ⟨zt_FM_105, List.forall_mem_cons.mpr ⟨zt_FM_123, List.forall_mem_cons.mpr ⟨zt_FM_126, List.forall_mem_cons.mpr ⟨zt_FM_129, List.forall_mem_cons.mpr ⟨zt_FM_138, List.forall_mem_cons.mpr ⟨zt_FM_174, List.forall_mem_cons.mpr ⟨zt_FM_180, List.forall_mem_cons.mpr ⟨zt_FM_200, List.forall_mem_cons.mpr ⟨zt_FM_206, List.forall_mem_cons.mpr ⟨zt_FM_209, List.forall_mem_cons.mpr ⟨zt_FM_333, List.forall_mem_cons.mpr ⟨zt_FM_350, List.forall_mem_cons.mpr ⟨zt_FM_356, List.forall_mem_cons.mpr ⟨zt_FM_369, List.forall_mem_cons.mpr ⟨zt_FM_372, List.forall_mem_cons.mpr ⟨zt_FM_375, List.forall_mem_cons.mpr ⟨zt_FM_378, List.forall_mem_cons.mpr ⟨zt_FM_383, List.forall_mem_cons.mpr ⟨zt_FM_404, fun _ h => absurd h List.not_mem_nil⟩⟩⟩⟩⟩⟩⟩⟩⟩⟩⟩⟩⟩⟩⟩⟩⟩⟩⟩⟩⟩⟩⟩⟩⟩⟩⟩⟩⟩⟩⟩⟩⟩⟩⟩⟩⟩⟩⟩⟩⟩⟩⟩⟩⟩⟩⟩, List.forall_mem_cons.mpr ⟨zt_PM_88, List.forall_mem_cons.mpr ⟨zt_PM_92, List.forall_mem_cons.mpr ⟨zt_PM_95, List.forall_mem_cons.mpr ⟨zt_PM_102, List.forall_mem_cons.mpr ⟨zt_PM_105, List.forall_mem_cons.mpr ⟨zt_PM_123, List.forall_mem_cons.mpr ⟨zt_PM_126, List.forall_mem_cons.mpr ⟨zt_PM_129, List.forall_mem_cons.mpr ⟨zt_PM_138, List.forall_mem_cons.mpr ⟨zt_PM_174, List.forall_mem_cons.mpr ⟨zt_PM_180, List.forall_mem_cons.mpr ⟨zt_PM_200, List.forall_mem_cons.mpr ⟨zt_PM_206, List.forall_mem_cons.mpr ⟨zt_PM_209, List.forall_mem_cons.mpr ⟨zt_PM_333, List.forall_mem_cons.mpr ⟨zt_PM_350, List.forall_mem_cons.mpr ⟨zt_PM_356, List.forall_mem_cons.mpr ⟨zt_PM_369, List.forall_mem_cons.mpr ⟨zt_PM_372, List.forall_mem_cons.mpr ⟨zt_PM_375, List.forall_mem_cons.mpr ⟨zt_PM_378, List.forall_mem_cons.mpr ⟨zt_PM_383, List.forall_mem_cons.mpr ⟨zt_PM_404, fun _ h => absurd h List.not_mem_nil⟩⟩⟩⟩⟩⟩⟩⟩⟩⟩⟩⟩⟩⟩⟩⟩⟩⟩⟩⟩⟩⟩⟩, List.forall_mem_cons.mpr ⟨zt_GM_84, List.forall_mem_cons.mpr ⟨zt_GM_98, List.forall_mem_cons.mpr ⟨zt_GM_108, List.forall_mem_cons.mpr ⟨zt_GM_112, List.forall_mem_cons.mpr ⟨zt_GM_115, List.forall_mem_cons.mpr ⟨zt_GM_119, List.forall_mem_cons.mpr ⟨zt_GM_132, List.forall_mem_cons.mpr ⟨zt_GM_135, List.forall_mem_cons.mpr ⟨zt_GM_141, List.forall_mem_cons.mpr ⟨zt_GM_145, List.forall_mem_cons.mpr ⟨zt_GM_149, List.forall_mem_cons.mpr ⟨zt_GM_152, List.forall_mem_cons.mpr ⟨zt_GM_156, List.forall_mem_cons.mpr ⟨zt_GM_160, List.forall_mem_cons.mpr ⟨zt_GM_164, List.forall_mem_cons.mpr ⟨zt_GM_167, List.forall_mem_cons.mpr ⟨zt_GM_171, List.forall_mem_cons.mpr ⟨zt_GM_177, List.forall_mem_cons.mpr ⟨zt_GM_183, List.forall_mem_cons.mpr ⟨zt_GM_187, List.forall_mem_cons.mpr ⟨zt_GM_191, List.forall_mem_cons.mpr ⟨zt_GM_194, List.forall_mem_cons.mpr ⟨zt_GM_197, List.forall_mem_cons.mpr ⟨zt_GM_203, List.forall_mem_cons.mpr ⟨zt_GM_212, List.forall_mem_cons.mpr ⟨zt_GM_215, List.forall_mem_cons.mpr ⟨zt_GM_218, List.forall_mem_cons.mpr ⟨zt_GM_221, List.forall_mem_cons.mpr ⟨zt_GM_224, List.forall_mem_cons.mpr ⟨zt_GM_227, List.forall_mem_cons.mpr ⟨zt_GM_230, List.forall_mem_cons.mpr ⟨zt_GM_233, List.forall_mem_cons.mpr ⟨zt_GM_236, List.forall_mem_cons.mpr ⟨zt_GM_239, List.forall_mem_cons.mpr ⟨zt_GM_242, List.forall_mem_cons.mpr ⟨zt_GM_246, List.forall_mem_cons.mpr ⟨zt_GM_249, List.forall_mem_cons.mpr ⟨zt_GM_252, List.forall_mem_cons.mpr ⟨zt_GM_255, List.forall_mem_cons.mpr ⟨zt_GM_258, List.forall_mem_cons.mpr ⟨zt_GM_261, List.forall_mem_cons.mpr ⟨zt_GM_264, List.forall_mem_cons.mpr ⟨zt_GM_267, List.forall_mem_cons.mpr ⟨zt_GM_270, List.forall_mem_cons.mpr ⟨zt_GM_273, List.forall_mem_cons.mpr ⟨zt_GM_276, List.forall_mem_cons.mpr ⟨zt_GM_279, List.forall_mem_cons.mpr ⟨zt_GM_282, List.forall_mem_cons.mpr ⟨zt_GM_285, List.forall_mem_cons.mpr ⟨zt_GM_288, List.forall_mem_cons.mpr ⟨zt_GM_291, List.forall_mem_cons.mpr ⟨zt_GM_294, List.forall_mem_cons.mpr ⟨zt_GM_297, List.forall_mem_cons.mpr ⟨zt_GM_300, List.forall_mem_cons.mpr ⟨zt_GM_303, List.forall_mem_cons.mpr ⟨zt_GM_306, List.forall_mem_cons.mpr ⟨zt_GM_309, List.forall_mem_cons.mpr ⟨zt_GM_313, List.forall_mem_cons.mpr ⟨zt_GM_317, List.forall_mem_cons.mpr ⟨zt_GM_320, List.forall_mem_cons.mpr ⟨zt_GM_323, List.forall_mem_cons.mpr ⟨zt_GM_326, List.forall_mem_cons.mpr ⟨zt_GM_330, List.forall_mem_cons.mpr ⟨zt_GM_336, List.forall_mem_cons.mpr ⟨zt_GM_339, List.forall_mem_cons.mpr ⟨zt_GM_343, List.forall_mem_cons.mpr ⟨zt_GM_346, List.forall_mem_cons.mpr ⟨zt_GM_353, List.forall_mem_cons.mpr ⟨zt_GM_360, List.forall_mem_cons.mpr ⟨zt_GM_363, List.forall_mem_cons.mpr ⟨zt_GM_366, List.forall_mem_cons.mpr ⟨zt_GM_393, List.forall_mem_cons.mpr ⟨zt_GM_396, List.forall_mem_cons.mpr ⟨zt_GM_399, List.forall_mem_cons.mpr ⟨zt_GM_407, List.forall_mem_cons.mpr ⟨zt_GM_411, List.forall_mem_cons.mpr ⟨zt_GM_416, fun _ h => absurd h List.not_mem_nil⟩⟩⟩⟩⟩⟩⟩⟩⟩⟩⟩⟩⟩⟩⟩⟩⟩⟩⟩⟩⟩⟩⟩⟩⟩⟩⟩⟩⟩⟩⟩⟩⟩⟩⟩⟩⟩⟩⟩⟩⟩⟩⟩⟩⟩⟩⟩⟩⟩⟩⟩⟩⟩⟩⟩⟩⟩⟩⟩⟩⟩⟩⟩⟩⟩⟩⟩⟩⟩⟩⟩⟩⟩⟩⟩⟩⟩, List.forall_mem_cons.mpr ⟨zt_KM_359, fun _ h => absurd h List.not_mem_nil⟩, List.forall_mem_cons.mpr ⟨zt_JM_381, List.forall_mem_cons.mpr ⟨zt_JM_387, List.forall_mem_cons.mpr ⟨zt_JM_389, List.forall_mem_cons.mpr ⟨zt_JM_391, List.forall_mem_cons.mpr ⟨zt_JM_402, List.forall_mem_cons.mpr ⟨zt_JM_414, fun _ h => absurd h List.not_mem_nil⟩⟩⟩⟩⟩⟩, fun _ h => absurd h List.not_mem_nil, fun _ h => absurd h List.not_mem_nil⟩
def zt_XL : zm_X := ([], [], [], [], [(314, 6148914691236517205), (316, 3689348814741910323), (318, 1085102592571150095)], [], [])
theorem zt_JL_314 : Jvm.Cond.constantLong "java/lang/Long" 314 6148914691236517205 ∈ zt_gw := zt_in 641 (by decide +kernel) rfl
theorem zt_JL_316 : Jvm.Cond.constantLong "java/lang/Long" 316 3689348814741910323 ∈ zt_gw := zt_in 642 (by decide +kernel) rfl
theorem zt_JL_318 : Jvm.Cond.constantLong "java/lang/Long" 318 1085102592571150095 ∈ zt_gw := zt_in 643 (by decide +kernel) rfl
theorem zt_okL : zm_okX zt_get zt_cl zt_gw zt_nw "java/lang/Long" zt_XL := ⟨fun _ h => absurd h List.not_mem_nil, fun _ h => absurd h List.not_mem_nil, fun _ h => absurd h List.not_mem_nil, fun _ h => absurd h List.not_mem_nil, List.forall_mem_cons.mpr ⟨zt_JL_314, List.forall_mem_cons.mpr ⟨zt_JL_316, List.forall_mem_cons.mpr ⟨zt_JL_318, fun _ h => absurd h List.not_mem_nil⟩⟩⟩, fun _ h => absurd h List.not_mem_nil, fun _ h => absurd h List.not_mem_nil⟩
end
section
/-! each method's table is what its bytes say; each method is in the tables (printed by wip/whole/gen_tables.py) -/
def zt_chk (X : zm_X) (M : zm_M) : Bool := (List.range M.2.2.2.2.2.2.2.length).all (fun pc => match zm_n M.2.2.2.2.2.2.2 pc with
  | some (some q) => decide (decode M.2.1 pc = .ok (q.1, q.2.1)) && zm_okB X M.2.2.1 pc q
  | _ => true)
theorem zt_okT {X : zm_X} {M : zm_M} (h : zt_chk X M = true) : zm_okT X M := by
  intro pc q hq
  have h0 := hq
  rw [zm_n_eq] at h0
  have h1 := List.all_eq_true.mp h pc (List.mem_range.mpr (List.getElem?_eq_some_iff.mp h0).1)
  rw [hq] at h1
  simpa only [Bool.and_eq_true, decide_eq_true_eq] using h1
/-- a method is in the tables, and its table is right -/
def zt_okk (M : zm_M) : Prop := zm_okM zt_cl zt_gw M ∧ ∃ X, zm_okX zt_get zt_cl zt_gw zt_nw M.1.cls X ∧ zm_okT X M
theorem zt_F_build_ok : zt_okk zt_F_build := ⟨⟨by decide +kernel, zt_in 590 (by decide +kernel) rfl, zt_in 144 (by decide +kernel) rfl, ⟨by decide +kernel, by decide +kernel⟩, by decide +kernel, by decide, fun h => by contradiction, fun _ => ⟨zt_in 589 (by decide +kernel) rfl, zt_in 34 (by decide +kernel) rfl, zt_T0, 6, rfl⟩⟩, zt_XF, zt_okF, zt_okT (by decide +kernel)⟩
theorem zt_F_findLinks_ok : zt_okk zt_F_findLinks := ⟨⟨by decide +kernel, zt_in 595 (by decide +kernel) rfl, zt_in 144 (by decide +kernel) rfl, ⟨by decide +kernel, by decide +kernel⟩, by decide +kernel, by decide, fun h => by contradiction, fun _ => ⟨zt_in 594 (by decide +kernel) rfl, zt_in 35 (by decide +kernel) rfl, zt_T0, 6, rfl⟩⟩, zt_XF, zt_okF, zt_okT (by decide +kernel)⟩
theorem zt_F_addLines_ok : zt_okk zt_F_addLines := ⟨⟨by decide +kernel, zt_in 600 (by decide +kernel) rfl, zt_in 144 (by decide +kernel) rfl, ⟨by decide +kernel, by decide +kernel⟩, by decide +kernel, by decide, fun h => by contradiction, fun _ => ⟨zt_in 599 (by decide +kernel) rfl, zt_in 36 (by decide +kernel) rfl, zt_T0, 6, rfl⟩⟩, zt_XF, zt_okF, zt_okT (by decide +kernel)⟩
theorem zt_F_addPlanes_ok : zt_okk zt_F_addPlanes := ⟨⟨by decide +kernel, zt_in 613 (by decide +kernel) rfl, zt_in 144 (by decide +kernel) rfl, ⟨by decide +kernel, by decide +kernel⟩, by decide +kernel, by decide, fun h => by contradiction, fun _ => ⟨zt_in 612 (by decide +kernel) rfl, zt_in 39 (by decide +kernel) rfl, zt_T0, 6, rfl⟩⟩, zt_XF, zt_okF, zt_okT (by decide +kernel)⟩
theorem zt_F_spanned_ok : zt_okk zt_F_spanned := ⟨⟨by decide +kernel, zt_in 605 (by decide +kernel) rfl, zt_in 144 (by decide +kernel) rfl, ⟨by decide +kernel, by decide +kernel⟩, by decide +kernel, by decide, fun h => by contradiction, fun _ => ⟨zt_in 604 (by decide +kernel) rfl, zt_in 37 (by decide +kernel) rfl, zt_T0, 6, rfl⟩⟩, zt_XF, zt_okF, zt_okT (by decide +kernel)⟩
theorem zt_F_linkedWithAll_ok : zt_okk zt_F_linkedWithAll := ⟨⟨by decide +kernel, zt_in 609 (by decide +kernel) rfl, zt_in 144 (by decide +kernel) rfl, ⟨by decide +kernel, by decide +kernel⟩, by decide +kernel, by decide, fun h => by contradiction, fun _ => ⟨zt_in 608 (by decide +kernel) rfl, zt_in 38 (by decide +kernel) rfl, zt_T0, 6, rfl⟩⟩, zt_XF, zt_okF, zt_okT (by decide +kernel)⟩
theorem zt_F_lowestTwo_ok : zt_okk zt_F_lowestTwo := ⟨⟨by decide +kernel, zt_in 616 (by decide +kernel) rfl, zt_in 144 (by decide +kernel) rfl, ⟨by decide +kernel, by decide +kernel⟩, by decide +kernel, by decide, fun _ => zt_in 615 (by decide +kernel) rfl, fun h => by contradiction⟩, zt_XF, zt_okF, zt_okT (by decide +kernel)⟩
theorem zt_F_totalOf_ok : zt_okk zt_F_totalOf := ⟨⟨by decide +kernel, zt_in 625 (by decide +kernel) rfl, zt_in 144 (by decide +kernel) rfl, ⟨by decide +kernel, by decide +kernel⟩, by decide +kernel, by decide, fun h => by contradiction, fun _ => ⟨zt_in 624 (by decide +kernel) rfl, zt_in 41 (by decide +kernel) rfl, zt_T0, 6, rfl⟩⟩, zt_XF, zt_okF, zt_okT (by decide +kernel)⟩
theorem zt_F_maskOf_ok : zt_okk zt_F_maskOf := ⟨⟨by decide +kernel, zt_in 629 (by decide +kernel) rfl, zt_in 144 (by decide +kernel) rfl, ⟨by decide +kernel, by decide +kernel⟩, by decide +kernel, by decide, fun h => by contradiction, fun _ => ⟨zt_in 628 (by decide +kernel) rfl, zt_in 42 (by decide +kernel) rfl, zt_T0, 6, rfl⟩⟩, zt_XF, zt_okF, zt_okT (by decide +kernel)⟩
theorem zt_O_hasVariable_ok : zt_okk zt_O_hasVariable := ⟨⟨by decide +kernel, zt_in 527 (by decide +kernel) rfl, zt_in 142 (by decide +kernel) rfl, ⟨by decide +kernel, by decide +kernel⟩, by decide +kernel, by decide, fun h => by contradiction, fun _ => ⟨zt_in 526 (by decide +kernel) rfl, zt_in 25 (by decide +kernel) rfl, zt_T1, 4, rfl⟩⟩, zt_XO, zt_okO, zt_okT (by decide +kernel)⟩
theorem zt_O_cell_ok : zt_okk zt_O_cell := ⟨⟨by decide +kernel, zt_in 479 (by decide +kernel) rfl, zt_in 142 (by decide +kernel) rfl, ⟨by decide +kernel, by decide +kernel⟩, by decide +kernel, by decide, fun h => by contradiction, fun _ => ⟨zt_in 478 (by decide +kernel) rfl, zt_in 15 (by decide +kernel) rfl, zt_T1, 4, rfl⟩⟩, zt_XO, zt_okO, zt_okT (by decide +kernel)⟩
theorem zt_O_store_ok : zt_okk zt_O_store := ⟨⟨by decide +kernel, zt_in 440 (by decide +kernel) rfl, zt_in 142 (by decide +kernel) rfl, ⟨by decide +kernel, by decide +kernel⟩, by decide +kernel, by decide, fun h => by contradiction, fun _ => ⟨zt_in 439 (by decide +kernel) rfl, zt_in 8 (by decide +kernel) rfl, zt_T1, 4, rfl⟩⟩, zt_XO, zt_okO, zt_okT (by decide +kernel)⟩
theorem zt_O_copyFrom_ok : zt_okk zt_O_copyFrom := ⟨⟨by decide +kernel, zt_in 805 (by decide +kernel) rfl, zt_in 142 (by decide +kernel) rfl, ⟨by decide +kernel, by decide +kernel⟩, by decide +kernel, by decide, fun h => by contradiction, fun _ => ⟨zt_in 804 (by decide +kernel) rfl, zt_in 66 (by decide +kernel) rfl, zt_T1, 4, rfl⟩⟩, zt_XO, zt_okO, zt_okT (by decide +kernel)⟩
theorem zt_O_exchange_ok : zt_okk zt_O_exchange := ⟨⟨by decide +kernel, zt_in 768 (by decide +kernel) rfl, zt_in 142 (by decide +kernel) rfl, ⟨by decide +kernel, by decide +kernel⟩, by decide +kernel, by decide, fun h => by contradiction, fun _ => ⟨zt_in 767 (by decide +kernel) rfl, zt_in 61 (by decide +kernel) rfl, zt_T1, 4, rfl⟩⟩, zt_XO, zt_okO, zt_okT (by decide +kernel)⟩
theorem zt_O_shear_ok : zt_okk zt_O_shear := ⟨⟨by decide +kernel, zt_in 781 (by decide +kernel) rfl, zt_in 142 (by decide +kernel) rfl, ⟨by decide +kernel, by decide +kernel⟩, by decide +kernel, by decide, fun h => by contradiction, fun _ => ⟨zt_in 780 (by decide +kernel) rfl, zt_in 63 (by decide +kernel) rfl, zt_T1, 4, rfl⟩⟩, zt_XO, zt_okO, zt_okT (by decide +kernel)⟩
theorem zt_O_stretch_ok : zt_okk zt_O_stretch := ⟨⟨by decide +kernel, zt_in 789 (by decide +kernel) rfl, zt_in 142 (by decide +kernel) rfl, ⟨by decide +kernel, by decide +kernel⟩, by decide +kernel, by decide, fun h => by contradiction, fun _ => ⟨zt_in 788 (by decide +kernel) rfl, zt_in 64 (by decide +kernel) rfl, zt_T1, 4, rfl⟩⟩, zt_XO, zt_okO, zt_okT (by decide +kernel)⟩
theorem zt_O_multiply_ok : zt_okk zt_O_multiply := ⟨⟨by decide +kernel, zt_in 797 (by decide +kernel) rfl, zt_in 142 (by decide +kernel) rfl, ⟨by decide +kernel, by decide +kernel⟩, by decide +kernel, by decide, fun h => by contradiction, fun _ => ⟨zt_in 796 (by decide +kernel) rfl, zt_in 65 (by decide +kernel) rfl, zt_T1, 4, rfl⟩⟩, zt_XO, zt_okO, zt_okT (by decide +kernel)⟩
theorem zt_O_discriminant_ok : zt_okk zt_O_discriminant := ⟨⟨by decide +kernel, zt_in 495 (by decide +kernel) rfl, zt_in 142 (by decide +kernel) rfl, ⟨by decide +kernel, by decide +kernel⟩, by decide +kernel, by decide, fun h => by contradiction, fun _ => ⟨zt_in 494 (by decide +kernel) rfl, zt_in 19 (by decide +kernel) rfl, zt_T1, 4, rfl⟩⟩, zt_XO, zt_okO, zt_okT (by decide +kernel)⟩
theorem zt_O_determinant_ok : zt_okk zt_O_determinant := ⟨⟨by decide +kernel, zt_in 499 (by decide +kernel) rfl, zt_in 142 (by decide +kernel) rfl, ⟨by decide +kernel, by decide +kernel⟩, by decide +kernel, by decide, fun h => by contradiction, fun _ => ⟨zt_in 498 (by decide +kernel) rfl, zt_in 20 (by decide +kernel) rfl, zt_T1, 4, rfl⟩⟩, zt_XO, zt_okO, zt_okT (by decide +kernel)⟩
theorem zt_O_pivotRow_ok : zt_okk zt_O_pivotRow := ⟨⟨by decide +kernel, zt_in 504 (by decide +kernel) rfl, zt_in 142 (by decide +kernel) rfl, ⟨by decide +kernel, by decide +kernel⟩, by decide +kernel, by decide, fun h => by contradiction, fun _ => ⟨zt_in 503 (by decide +kernel) rfl, zt_in 21 (by decide +kernel) rfl, zt_T1, 4, rfl⟩⟩, zt_XO, zt_okO, zt_okT (by decide +kernel)⟩
theorem zt_O_exchangeRows_ok : zt_okk zt_O_exchangeRows := ⟨⟨by decide +kernel, zt_in 508 (by decide +kernel) rfl, zt_in 142 (by decide +kernel) rfl, ⟨by decide +kernel, by decide +kernel⟩, by decide +kernel, by decide, fun h => by contradiction, fun _ => ⟨zt_in 507 (by decide +kernel) rfl, zt_in 22 (by decide +kernel) rfl, zt_T1, 4, rfl⟩⟩, zt_XO, zt_okO, zt_okT (by decide +kernel)⟩
theorem zt_O_clearBelow_ok : zt_okk zt_O_clearBelow := ⟨⟨by decide +kernel, zt_in 512 (by decide +kernel) rfl, zt_in 142 (by decide +kernel) rfl, ⟨by decide +kernel, by decide +kernel⟩, by decide +kernel, by decide, fun h => by contradiction, fun _ => ⟨zt_in 511 (by decide +kernel) rfl, zt_in 23 (by decide +kernel) rfl, zt_T1, 4, rfl⟩⟩, zt_XO, zt_okO, zt_okT (by decide +kernel)⟩
theorem zt_P_append_ok : zt_okk zt_P_append := ⟨⟨by decide +kernel, zt_in 395 (by decide +kernel) rfl, zt_in 141 (by decide +kernel) rfl, ⟨by decide +kernel, by decide +kernel⟩, by decide +kernel, by decide, fun h => by contradiction, fun _ => ⟨zt_in 394 (by decide +kernel) rfl, zt_in 0 (by decide +kernel) rfl, zt_T2, 6, rfl⟩⟩, zt_XP, zt_okP, zt_okT (by decide +kernel)⟩
theorem zt_P_firstWrong_ok : zt_okk zt_P_firstWrong := ⟨⟨by decide +kernel, zt_in 407 (by decide +kernel) rfl, zt_in 141 (by decide +kernel) rfl, ⟨by decide +kernel, by decide +kernel⟩, by decide +kernel, by decide, fun h => by contradiction, fun _ => ⟨zt_in 406 (by decide +kernel) rfl, zt_in 1 (by decide +kernel) rfl, zt_T2, 6, rfl⟩⟩, zt_XP, zt_okP, zt_okT (by decide +kernel)⟩
theorem zt_P_isText_ok : zt_okk zt_P_isText := ⟨⟨by decide +kernel, zt_in 431 (by decide +kernel) rfl, zt_in 141 (by decide +kernel) rfl, ⟨by decide +kernel, by decide +kernel⟩, by decide +kernel, by decide, fun h => by contradiction, fun _ => ⟨zt_in 430 (by decide +kernel) rfl, zt_in 6 (by decide +kernel) rfl, zt_T2, 6, rfl⟩⟩, zt_XP, zt_okP, zt_okT (by decide +kernel)⟩
theorem zt_P_accepts_ok : zt_okk zt_P_accepts := ⟨⟨by decide +kernel, zt_in 411 (by decide +kernel) rfl, zt_in 141 (by decide +kernel) rfl, ⟨by decide +kernel, by decide +kernel⟩, by decide +kernel, by decide, fun h => by contradiction, fun _ => ⟨zt_in 410 (by decide +kernel) rfl, zt_in 2 (by decide +kernel) rfl, zt_T2, 6, rfl⟩⟩, zt_XP, zt_okP, zt_okT (by decide +kernel)⟩
theorem zt_P_mostVariables_ok : zt_okk zt_P_mostVariables := ⟨⟨by decide +kernel, zt_in 415 (by decide +kernel) rfl, zt_in 141 (by decide +kernel) rfl, ⟨by decide +kernel, by decide +kernel⟩, by decide +kernel, by decide, fun h => by contradiction, fun _ => ⟨zt_in 414 (by decide +kernel) rfl, zt_in 3 (by decide +kernel) rfl, zt_T2, 6, rfl⟩⟩, zt_XP, zt_okP, zt_okT (by decide +kernel)⟩
theorem zt_P_endsRow_ok : zt_okk zt_P_endsRow := ⟨⟨by decide +kernel, zt_in 419 (by decide +kernel) rfl, zt_in 141 (by decide +kernel) rfl, ⟨by decide +kernel, by decide +kernel⟩, by decide +kernel, by decide, fun h => by contradiction, fun _ => ⟨zt_in 418 (by decide +kernel) rfl, zt_in 4 (by decide +kernel) rfl, zt_T2, 6, rfl⟩⟩, zt_XP, zt_okP, zt_okT (by decide +kernel)⟩
theorem zt_P_addsDigit_ok : zt_okk zt_P_addsDigit := ⟨⟨by decide +kernel, zt_in 423 (by decide +kernel) rfl, zt_in 141 (by decide +kernel) rfl, ⟨by decide +kernel, by decide +kernel⟩, by decide +kernel, by decide, fun h => by contradiction, fun _ => ⟨zt_in 422 (by decide +kernel) rfl, zt_in 5 (by decide +kernel) rfl, zt_T2, 6, rfl⟩⟩, zt_XP, zt_okP, zt_okT (by decide +kernel)⟩
theorem zt_P_copyTo_ok : zt_okk zt_P_copyTo := ⟨⟨by decide +kernel, zt_in 436 (by decide +kernel) rfl, zt_in 141 (by decide +kernel) rfl, ⟨by decide +kernel, by decide +kernel⟩, by decide +kernel, by decide, fun h => by contradiction, fun _ => ⟨zt_in 435 (by decide +kernel) rfl, zt_in 7 (by decide +kernel) rfl, zt_T2, 6, rfl⟩⟩, zt_XP, zt_okP, zt_okT (by decide +kernel)⟩
theorem zt_Q_layPoints_ok : zt_okk zt_Q_layPoints := ⟨⟨by decide +kernel, zt_in 447 (by decide +kernel) rfl, zt_in 143 (by decide +kernel) rfl, ⟨by decide +kernel, by decide +kernel⟩, by decide +kernel, by decide, fun h => by contradiction, fun _ => ⟨zt_in 446 (by decide +kernel) rfl, zt_in 9 (by decide +kernel) rfl, zt_T3, 11, rfl⟩⟩, zt_XQ, zt_okQ, zt_okT (by decide +kernel)⟩
theorem zt_Q_layPoint_ok : zt_okk zt_Q_layPoint := ⟨⟨by decide +kernel, zt_in 454 (by decide +kernel) rfl, zt_in 143 (by decide +kernel) rfl, ⟨by decide +kernel, by decide +kernel⟩, by decide +kernel, by decide, fun h => by contradiction, fun _ => ⟨zt_in 453 (by decide +kernel) rfl, zt_in 10 (by decide +kernel) rfl, zt_T3, 11, rfl⟩⟩, zt_XQ, zt_okQ, zt_okT (by decide +kernel)⟩
theorem zt_Q_vectorPoint_ok : zt_okk zt_Q_vectorPoint := ⟨⟨by decide +kernel, zt_in 577 (by decide +kernel) rfl, zt_in 143 (by decide +kernel) rfl, ⟨by decide +kernel, by decide +kernel⟩, by decide +kernel, by decide, fun h => by contradiction, fun _ => ⟨zt_in 576 (by decide +kernel) rfl, zt_in 32 (by decide +kernel) rfl, zt_T3, 11, rfl⟩⟩, zt_XQ, zt_okQ, zt_okT (by decide +kernel)⟩
theorem zt_Q_survey_ok : zt_okk zt_Q_survey := ⟨⟨by decide +kernel, zt_in 471 (by decide +kernel) rfl, zt_in 143 (by decide +kernel) rfl, ⟨by decide +kernel, by decide +kernel⟩, by decide +kernel, by decide, fun h => by contradiction, fun _ => ⟨zt_in 470 (by decide +kernel) rfl, zt_in 13 (by decide +kernel) rfl, zt_T3, 11, rfl⟩⟩, zt_XQ, zt_okQ, zt_okT (by decide +kernel)⟩
theorem zt_Q_measure_ok : zt_okk zt_Q_measure := ⟨⟨by decide +kernel, zt_in 475 (by decide +kernel) rfl, zt_in 143 (by decide +kernel) rfl, ⟨by decide +kernel, by decide +kernel⟩, by decide +kernel, by decide, fun h => by contradiction, fun _ => ⟨zt_in 474 (by decide +kernel) rfl, zt_in 14 (by decide +kernel) rfl, zt_T3, 11, rfl⟩⟩, zt_XQ, zt_okQ, zt_okT (by decide +kernel)⟩
theorem zt_Q_isSingular_ok : zt_okk zt_Q_isSingular := ⟨⟨by decide +kernel, zt_in 483 (by decide +kernel) rfl, zt_in 143 (by decide +kernel) rfl, ⟨by decide +kernel, by decide +kernel⟩, by decide +kernel, by decide, fun h => by contradiction, fun _ => ⟨zt_in 482 (by decide +kernel) rfl, zt_in 16 (by decide +kernel) rfl, zt_T3, 11, rfl⟩⟩, zt_XQ, zt_okQ, zt_okT (by decide +kernel)⟩
end
section
/-! methods, on (printed) -/
theorem zt_Q_isOn_ok : zt_okk zt_Q_isOn := ⟨⟨by decide +kernel, zt_in 560 (by decide +kernel) rfl, zt_in 143 (by decide +kernel) rfl, ⟨by decide +kernel, by decide +kernel⟩, by decide +kernel, by decide, fun h => by contradiction, fun _ => ⟨zt_in 559 (by decide +kernel) rfl, zt_in 29 (by decide +kernel) rfl, zt_T3, 11, rfl⟩⟩, zt_XQ, zt_okQ, zt_okT (by decide +kernel)⟩
theorem zt_Q_product_ok : zt_okk zt_Q_product := ⟨⟨by decide +kernel, zt_in 548 (by decide +kernel) rfl, zt_in 143 (by decide +kernel) rfl, ⟨by decide +kernel, by decide +kernel⟩, by decide +kernel, by decide, fun h => by contradiction, fun _ => ⟨zt_in 547 (by decide +kernel) rfl, zt_in 27 (by decide +kernel) rfl, zt_T3, 11, rfl⟩⟩, zt_XQ, zt_okQ, zt_okT (by decide +kernel)⟩
theorem zt_Q_areCollinear_ok : zt_okk zt_Q_areCollinear := ⟨⟨by decide +kernel, zt_in 556 (by decide +kernel) rfl, zt_in 143 (by decide +kernel) rfl, ⟨by decide +kernel, by decide +kernel⟩, by decide +kernel, by decide, fun h => by contradiction, fun _ => ⟨zt_in 555 (by decide +kernel) rfl, zt_in 28 (by decide +kernel) rfl, zt_T3, 11, rfl⟩⟩, zt_XQ, zt_okQ, zt_okT (by decide +kernel)⟩
theorem zt_Q_sectionSize_ok : zt_okk zt_Q_sectionSize := ⟨⟨by decide +kernel, zt_in 569 (by decide +kernel) rfl, zt_in 143 (by decide +kernel) rfl, ⟨by decide +kernel, by decide +kernel⟩, by decide +kernel, by decide, fun h => by contradiction, fun _ => ⟨zt_in 568 (by decide +kernel) rfl, zt_in 30 (by decide +kernel) rfl, zt_T3, 11, rfl⟩⟩, zt_XQ, zt_okQ, zt_okT (by decide +kernel)⟩
theorem zt_Q_tangentPoint_ok : zt_okk zt_Q_tangentPoint := ⟨⟨by decide +kernel, zt_in 573 (by decide +kernel) rfl, zt_in 143 (by decide +kernel) rfl, ⟨by decide +kernel, by decide +kernel⟩, by decide +kernel, by decide, fun h => by contradiction, fun _ => ⟨zt_in 572 (by decide +kernel) rfl, zt_in 31 (by decide +kernel) rfl, zt_T3, 11, rfl⟩⟩, zt_XQ, zt_okQ, zt_okT (by decide +kernel)⟩
theorem zt_Q_kind_ok : zt_okk zt_Q_kind := ⟨⟨by decide +kernel, zt_in 487 (by decide +kernel) rfl, zt_in 143 (by decide +kernel) rfl, ⟨by decide +kernel, by decide +kernel⟩, by decide +kernel, by decide, fun h => by contradiction, fun _ => ⟨zt_in 486 (by decide +kernel) rfl, zt_in 17 (by decide +kernel) rfl, zt_T3, 11, rfl⟩⟩, zt_XQ, zt_okQ, zt_okT (by decide +kernel)⟩
theorem zt_Q_index_ok : zt_okk zt_Q_index := ⟨⟨by decide +kernel, zt_in 519 (by decide +kernel) rfl, zt_in 143 (by decide +kernel) rfl, ⟨by decide +kernel, by decide +kernel⟩, by decide +kernel, by decide, fun h => by contradiction, fun _ => ⟨zt_in 518 (by decide +kernel) rfl, zt_in 24 (by decide +kernel) rfl, zt_T3, 11, rfl⟩⟩, zt_XQ, zt_okQ, zt_okT (by decide +kernel)⟩
theorem zt_Q_isHyperbolic_ok : zt_okk zt_Q_isHyperbolic := ⟨⟨by decide +kernel, zt_in 491 (by decide +kernel) rfl, zt_in 143 (by decide +kernel) rfl, ⟨by decide +kernel, by decide +kernel⟩, by decide +kernel, by decide, fun h => by contradiction, fun _ => ⟨zt_in 490 (by decide +kernel) rfl, zt_in 18 (by decide +kernel) rfl, zt_T3, 11, rfl⟩⟩, zt_XQ, zt_okQ, zt_okT (by decide +kernel)⟩
theorem zt_H_run_ok : zt_okk zt_H_run := ⟨⟨by decide +kernel, zt_in 718 (by decide +kernel) rfl, zt_in 146 (by decide +kernel) rfl, ⟨by decide +kernel, by decide +kernel⟩, by decide +kernel, by decide, fun h => by contradiction, fun _ => ⟨zt_in 717 (by decide +kernel) rfl, zt_in 54 (by decide +kernel) rfl, zt_T4, 4, rfl⟩⟩, zt_XH, zt_okH, zt_okT (by decide +kernel)⟩
theorem zt_H_walk_ok : zt_okk zt_H_walk := ⟨⟨by decide +kernel, zt_in 734 (by decide +kernel) rfl, zt_in 146 (by decide +kernel) rfl, ⟨by decide +kernel, by decide +kernel⟩, by decide +kernel, by decide, fun h => by contradiction, fun _ => ⟨zt_in 733 (by decide +kernel) rfl, zt_in 57 (by decide +kernel) rfl, zt_T4, 4, rfl⟩⟩, zt_XH, zt_okH, zt_okT (by decide +kernel)⟩
theorem zt_H_note_ok : zt_okk zt_H_note := ⟨⟨by decide +kernel, zt_in 738 (by decide +kernel) rfl, zt_in 146 (by decide +kernel) rfl, ⟨by decide +kernel, by decide +kernel⟩, by decide +kernel, by decide, fun h => by contradiction, fun _ => ⟨zt_in 737 (by decide +kernel) rfl, zt_in 58 (by decide +kernel) rfl, zt_T4, 4, rfl⟩⟩, zt_XH, zt_okH, zt_okT (by decide +kernel)⟩
theorem zt_H_fewestChoices_ok : zt_okk zt_H_fewestChoices := ⟨⟨by decide +kernel, zt_in 742 (by decide +kernel) rfl, zt_in 146 (by decide +kernel) rfl, ⟨by decide +kernel, by decide +kernel⟩, by decide +kernel, by decide, fun h => by contradiction, fun _ => ⟨zt_in 741 (by decide +kernel) rfl, zt_in 59 (by decide +kernel) rfl, zt_T4, 4, rfl⟩⟩, zt_XH, zt_okH, zt_okT (by decide +kernel)⟩
theorem zt_D_findClashes_ok : zt_okk zt_D_findClashes := ⟨⟨by decide +kernel, zt_in 633 (by decide +kernel) rfl, zt_in 145 (by decide +kernel) rfl, ⟨by decide +kernel, by decide +kernel⟩, by decide +kernel, by decide, fun h => by contradiction, fun _ => ⟨zt_in 632 (by decide +kernel) rfl, zt_in 43 (by decide +kernel) rfl, zt_T5, 5, rfl⟩⟩, zt_XD, zt_okD, zt_okT (by decide +kernel)⟩
theorem zt_D_refuses_ok : zt_okk zt_D_refuses := ⟨⟨by decide +kernel, zt_in 666 (by decide +kernel) rfl, zt_in 145 (by decide +kernel) rfl, ⟨by decide +kernel, by decide +kernel⟩, by decide +kernel, by decide, fun h => by contradiction, fun _ => ⟨zt_in 665 (by decide +kernel) rfl, zt_in 46 (by decide +kernel) rfl, zt_T5, 5, rfl⟩⟩, zt_XD, zt_okD, zt_okT (by decide +kernel)⟩
theorem zt_D_append_ok : zt_okk zt_D_append := ⟨⟨by decide +kernel, zt_in 674 (by decide +kernel) rfl, zt_in 145 (by decide +kernel) rfl, ⟨by decide +kernel, by decide +kernel⟩, by decide +kernel, by decide, fun h => by contradiction, fun _ => ⟨zt_in 673 (by decide +kernel) rfl, zt_in 48 (by decide +kernel) rfl, zt_T5, 5, rfl⟩⟩, zt_XD, zt_okD, zt_okT (by decide +kernel)⟩
theorem zt_D_appendAll_ok : zt_okk zt_D_appendAll := ⟨⟨by decide +kernel, zt_in 750 (by decide +kernel) rfl, zt_in 145 (by decide +kernel) rfl, ⟨by decide +kernel, by decide +kernel⟩, by decide +kernel, by decide, fun h => by contradiction, fun _ => ⟨zt_in 749 (by decide +kernel) rfl, zt_in 60 (by decide +kernel) rfl, zt_T5, 5, rfl⟩⟩, zt_XD, zt_okD, zt_okT (by decide +kernel)⟩
theorem zt_D_taken_ok : zt_okk zt_D_taken := ⟨⟨by decide +kernel, zt_in 670 (by decide +kernel) rfl, zt_in 145 (by decide +kernel) rfl, ⟨by decide +kernel, by decide +kernel⟩, by decide +kernel, by decide, fun h => by contradiction, fun _ => ⟨zt_in 669 (by decide +kernel) rfl, zt_in 47 (by decide +kernel) rfl, zt_T5, 5, rfl⟩⟩, zt_XD, zt_okD, zt_okT (by decide +kernel)⟩
theorem zt_D_covered_ok : zt_okk zt_D_covered := ⟨⟨by decide +kernel, zt_in 706 (by decide +kernel) rfl, zt_in 145 (by decide +kernel) rfl, ⟨by decide +kernel, by decide +kernel⟩, by decide +kernel, by decide, fun h => by contradiction, fun _ => ⟨zt_in 705 (by decide +kernel) rfl, zt_in 52 (by decide +kernel) rfl, zt_T5, 5, rfl⟩⟩, zt_XD, zt_okD, zt_okT (by decide +kernel)⟩
theorem zt_D_clashing_ok : zt_okk zt_D_clashing := ⟨⟨by decide +kernel, zt_in 729 (by decide +kernel) rfl, zt_in 145 (by decide +kernel) rfl, ⟨by decide +kernel, by decide +kernel⟩, by decide +kernel, by decide, fun h => by contradiction, fun _ => ⟨zt_in 728 (by decide +kernel) rfl, zt_in 56 (by decide +kernel) rfl, zt_T5, 5, rfl⟩⟩, zt_XD, zt_okD, zt_okT (by decide +kernel)⟩
theorem zt_D_everything_ok : zt_okk zt_D_everything := ⟨⟨by decide +kernel, zt_in 722 (by decide +kernel) rfl, zt_in 145 (by decide +kernel) rfl, ⟨by decide +kernel, by decide +kernel⟩, by decide +kernel, by decide, fun h => by contradiction, fun _ => ⟨zt_in 721 (by decide +kernel) rfl, zt_in 55 (by decide +kernel) rfl, zt_T5, 5, rfl⟩⟩, zt_XD, zt_okD, zt_okT (by decide +kernel)⟩
theorem zt_X_letter_ok : zt_okk zt_X_letter := ⟨⟨by decide +kernel, zt_in 391 (by decide +kernel) rfl, zt_in 140 (by decide +kernel) rfl, ⟨by decide +kernel, by decide +kernel⟩, by decide +kernel, by decide, fun h => by contradiction, fun _ => ⟨zt_in 389 (by decide +kernel) rfl, zt_in 390 (by decide +kernel) rfl, zt_T6, 15, rfl⟩⟩, zt_XX, zt_okX, zt_okT (by decide +kernel)⟩
theorem zt_X_blank_ok : zt_okk zt_X_blank := ⟨⟨by decide +kernel, zt_in 399 (by decide +kernel) rfl, zt_in 140 (by decide +kernel) rfl, ⟨by decide +kernel, by decide +kernel⟩, by decide +kernel, by decide, fun h => by contradiction, fun _ => ⟨zt_in 397 (by decide +kernel) rfl, zt_in 398 (by decide +kernel) rfl, zt_T6, 15, rfl⟩⟩, zt_XX, zt_okX, zt_okT (by decide +kernel)⟩
theorem zt_X_fault_ok : zt_okk zt_X_fault := ⟨⟨by decide +kernel, zt_in 403 (by decide +kernel) rfl, zt_in 140 (by decide +kernel) rfl, ⟨by decide +kernel, by decide +kernel⟩, by decide +kernel, by decide, fun h => by contradiction, fun _ => ⟨zt_in 401 (by decide +kernel) rfl, zt_in 402 (by decide +kernel) rfl, zt_T6, 15, rfl⟩⟩, zt_XX, zt_okX, zt_okT (by decide +kernel)⟩
theorem zt_X_form_ok : zt_okk zt_X_form := ⟨⟨by decide +kernel, zt_in 427 (by decide +kernel) rfl, zt_in 140 (by decide +kernel) rfl, ⟨by decide +kernel, by decide +kernel⟩, by decide +kernel, by decide, fun h => by contradiction, fun _ => ⟨zt_in 425 (by decide +kernel) rfl, zt_in 426 (by decide +kernel) rfl, zt_T6, 15, rfl⟩⟩, zt_XX, zt_okX, zt_okT (by decide +kernel)⟩
theorem zt_X_about_ok : zt_okk zt_X_about := ⟨⟨by decide +kernel, zt_in 463 (by decide +kernel) rfl, zt_in 140 (by decide +kernel) rfl, ⟨by decide +kernel, by decide +kernel⟩, by decide +kernel, by decide, fun h => by contradiction, fun _ => ⟨zt_in 461 (by decide +kernel) rfl, zt_in 462 (by decide +kernel) rfl, zt_T6, 15, rfl⟩⟩, zt_XX, zt_okX, zt_okT (by decide +kernel)⟩
theorem zt_X_coefficient_ok : zt_okk zt_X_coefficient := ⟨⟨by decide +kernel, zt_in 523 (by decide +kernel) rfl, zt_in 140 (by decide +kernel) rfl, ⟨by decide +kernel, by decide +kernel⟩, by decide +kernel, by decide, fun h => by contradiction, fun _ => ⟨zt_in 521 (by decide +kernel) rfl, zt_in 522 (by decide +kernel) rfl, zt_T6, 15, rfl⟩⟩, zt_XX, zt_okX, zt_okT (by decide +kernel)⟩
theorem zt_X_point_ok : zt_okk zt_X_point := ⟨⟨by decide +kernel, zt_in 532 (by decide +kernel) rfl, zt_in 140 (by decide +kernel) rfl, ⟨by decide +kernel, by decide +kernel⟩, by decide +kernel, by decide, fun h => by contradiction, fun _ => ⟨zt_in 530 (by decide +kernel) rfl, zt_in 531 (by decide +kernel) rfl, zt_T6, 15, rfl⟩⟩, zt_XX, zt_okX, zt_okT (by decide +kernel)⟩
theorem zt_X_value_ok : zt_okk zt_X_value := ⟨⟨by decide +kernel, zt_in 540 (by decide +kernel) rfl, zt_in 140 (by decide +kernel) rfl, ⟨by decide +kernel, by decide +kernel⟩, by decide +kernel, by decide, fun h => by contradiction, fun _ => ⟨zt_in 538 (by decide +kernel) rfl, zt_in 539 (by decide +kernel) rfl, zt_T6, 15, rfl⟩⟩, zt_XX, zt_okX, zt_okT (by decide +kernel)⟩
theorem zt_X_polar_ok : zt_okk zt_X_polar := ⟨⟨by decide +kernel, zt_in 544 (by decide +kernel) rfl, zt_in 140 (by decide +kernel) rfl, ⟨by decide +kernel, by decide +kernel⟩, by decide +kernel, by decide, fun h => by contradiction, fun _ => ⟨zt_in 542 (by decide +kernel) rfl, zt_in 543 (by decide +kernel) rfl, zt_T6, 15, rfl⟩⟩, zt_XX, zt_okX, zt_okT (by decide +kernel)⟩
theorem zt_X_joined_ok : zt_okk zt_X_joined := ⟨⟨by decide +kernel, zt_in 552 (by decide +kernel) rfl, zt_in 140 (by decide +kernel) rfl, ⟨by decide +kernel, by decide +kernel⟩, by decide +kernel, by decide, fun h => by contradiction, fun _ => ⟨zt_in 550 (by decide +kernel) rfl, zt_in 551 (by decide +kernel) rfl, zt_T6, 15, rfl⟩⟩, zt_XX, zt_okX, zt_okT (by decide +kernel)⟩
theorem zt_X_section_ok : zt_okk zt_X_section := ⟨⟨by decide +kernel, zt_in 565 (by decide +kernel) rfl, zt_in 140 (by decide +kernel) rfl, ⟨by decide +kernel, by decide +kernel⟩, by decide +kernel, by decide, fun h => by contradiction, fun _ => ⟨zt_in 563 (by decide +kernel) rfl, zt_in 564 (by decide +kernel) rfl, zt_T6, 15, rfl⟩⟩, zt_XX, zt_okX, zt_okT (by decide +kernel)⟩
theorem zt_X_flats_ok : zt_okk zt_X_flats := ⟨⟨by decide +kernel, zt_in 582 (by decide +kernel) rfl, zt_in 140 (by decide +kernel) rfl, ⟨by decide +kernel, by decide +kernel⟩, by decide +kernel, by decide, fun h => by contradiction, fun _ => ⟨zt_in 580 (by decide +kernel) rfl, zt_in 581 (by decide +kernel) rfl, zt_T6, 15, rfl⟩⟩, zt_XX, zt_okX, zt_okT (by decide +kernel)⟩
theorem zt_X_flat_ok : zt_okk zt_X_flat := ⟨⟨by decide +kernel, zt_in 637 (by decide +kernel) rfl, zt_in 140 (by decide +kernel) rfl, ⟨by decide +kernel, by decide +kernel⟩, by decide +kernel, by decide, fun h => by contradiction, fun _ => ⟨zt_in 635 (by decide +kernel) rfl, zt_in 636 (by decide +kernel) rfl, zt_T6, 15, rfl⟩⟩, zt_XX, zt_okX, zt_okT (by decide +kernel)⟩
theorem zt_X_near_ok : zt_okk zt_X_near := ⟨⟨by decide +kernel, zt_in 650 (by decide +kernel) rfl, zt_in 140 (by decide +kernel) rfl, ⟨by decide +kernel, by decide +kernel⟩, by decide +kernel, by decide, fun h => by contradiction, fun _ => ⟨zt_in 648 (by decide +kernel) rfl, zt_in 649 (by decide +kernel) rfl, zt_T6, 15, rfl⟩⟩, zt_XX, zt_okX, zt_okT (by decide +kernel)⟩
theorem zt_X_pick_ok : zt_okk zt_X_pick := ⟨⟨by decide +kernel, zt_in 662 (by decide +kernel) rfl, zt_in 140 (by decide +kernel) rfl, ⟨by decide +kernel, by decide +kernel⟩, by decide +kernel, by decide, fun h => by contradiction, fun _ => ⟨zt_in 660 (by decide +kernel) rfl, zt_in 661 (by decide +kernel) rfl, zt_T6, 15, rfl⟩⟩, zt_XX, zt_okX, zt_okT (by decide +kernel)⟩
theorem zt_X_gather_ok : zt_okk zt_X_gather := ⟨⟨by decide +kernel, zt_in 678 (by decide +kernel) rfl, zt_in 140 (by decide +kernel) rfl, ⟨by decide +kernel, by decide +kernel⟩, by decide +kernel, by decide, fun h => by contradiction, fun _ => ⟨zt_in 676 (by decide +kernel) rfl, zt_in 677 (by decide +kernel) rfl, zt_T6, 15, rfl⟩⟩, zt_XX, zt_okX, zt_okT (by decide +kernel)⟩
end
section
/-! methods, on (printed) -/
theorem zt_X_drop_ok : zt_okk zt_X_drop := ⟨⟨by decide +kernel, zt_in 682 (by decide +kernel) rfl, zt_in 140 (by decide +kernel) rfl, ⟨by decide +kernel, by decide +kernel⟩, by decide +kernel, by decide, fun h => by contradiction, fun _ => ⟨zt_in 680 (by decide +kernel) rfl, zt_in 681 (by decide +kernel) rfl, zt_T6, 15, rfl⟩⟩, zt_XX, zt_okX, zt_okT (by decide +kernel)⟩
theorem zt_X_chosen_ok : zt_okk zt_X_chosen := ⟨⟨by decide +kernel, zt_in 694 (by decide +kernel) rfl, zt_in 140 (by decide +kernel) rfl, ⟨by decide +kernel, by decide +kernel⟩, by decide +kernel, by decide, fun h => by contradiction, fun _ => ⟨zt_in 692 (by decide +kernel) rfl, zt_in 693 (by decide +kernel) rfl, zt_T6, 15, rfl⟩⟩, zt_XX, zt_okX, zt_okT (by decide +kernel)⟩
theorem zt_X_left_ok : zt_okk zt_X_left := ⟨⟨by decide +kernel, zt_in 698 (by decide +kernel) rfl, zt_in 140 (by decide +kernel) rfl, ⟨by decide +kernel, by decide +kernel⟩, by decide +kernel, by decide, fun h => by contradiction, fun _ => ⟨zt_in 696 (by decide +kernel) rfl, zt_in 697 (by decide +kernel) rfl, zt_T6, 15, rfl⟩⟩, zt_XX, zt_okX, zt_okT (by decide +kernel)⟩
theorem zt_X_finish_ok : zt_okk zt_X_finish := ⟨⟨by decide +kernel, zt_in 710 (by decide +kernel) rfl, zt_in 140 (by decide +kernel) rfl, ⟨by decide +kernel, by decide +kernel⟩, by decide +kernel, by decide, fun h => by contradiction, fun _ => ⟨zt_in 708 (by decide +kernel) rfl, zt_in 709 (by decide +kernel) rfl, zt_T6, 15, rfl⟩⟩, zt_XX, zt_okX, zt_okT (by decide +kernel)⟩
theorem zt_X_ways_ok : zt_okk zt_X_ways := ⟨⟨by decide +kernel, zt_in 755 (by decide +kernel) rfl, zt_in 140 (by decide +kernel) rfl, ⟨by decide +kernel, by decide +kernel⟩, by decide +kernel, by decide, fun h => by contradiction, fun _ => ⟨zt_in 753 (by decide +kernel) rfl, zt_in 754 (by decide +kernel) rfl, zt_T6, 15, rfl⟩⟩, zt_XX, zt_okX, zt_okT (by decide +kernel)⟩
theorem zt_X_put_ok : zt_okk zt_X_put := ⟨⟨by decide +kernel, zt_in 759 (by decide +kernel) rfl, zt_in 140 (by decide +kernel) rfl, ⟨by decide +kernel, by decide +kernel⟩, by decide +kernel, by decide, fun h => by contradiction, fun _ => ⟨zt_in 757 (by decide +kernel) rfl, zt_in 758 (by decide +kernel) rfl, zt_T6, 15, rfl⟩⟩, zt_XX, zt_okX, zt_okT (by decide +kernel)⟩
theorem zt_X_swap_ok : zt_okk zt_X_swap := ⟨⟨by decide +kernel, zt_in 764 (by decide +kernel) rfl, zt_in 140 (by decide +kernel) rfl, ⟨by decide +kernel, by decide +kernel⟩, by decide +kernel, by decide, fun h => by contradiction, fun _ => ⟨zt_in 762 (by decide +kernel) rfl, zt_in 763 (by decide +kernel) rfl, zt_T6, 15, rfl⟩⟩, zt_XX, zt_okX, zt_okT (by decide +kernel)⟩
theorem zt_X_plus_ok : zt_okk zt_X_plus := ⟨⟨by decide +kernel, zt_in 777 (by decide +kernel) rfl, zt_in 140 (by decide +kernel) rfl, ⟨by decide +kernel, by decide +kernel⟩, by decide +kernel, by decide, fun h => by contradiction, fun _ => ⟨zt_in 775 (by decide +kernel) rfl, zt_in 776 (by decide +kernel) rfl, zt_T6, 15, rfl⟩⟩, zt_XX, zt_okX, zt_okT (by decide +kernel)⟩
theorem zt_X_scale_ok : zt_okk zt_X_scale := ⟨⟨by decide +kernel, zt_in 785 (by decide +kernel) rfl, zt_in 140 (by decide +kernel) rfl, ⟨by decide +kernel, by decide +kernel⟩, by decide +kernel, by decide, fun h => by contradiction, fun _ => ⟨zt_in 783 (by decide +kernel) rfl, zt_in 784 (by decide +kernel) rfl, zt_T6, 15, rfl⟩⟩, zt_XX, zt_okX, zt_okT (by decide +kernel)⟩
theorem zt_X_times_ok : zt_okk zt_X_times := ⟨⟨by decide +kernel, zt_in 793 (by decide +kernel) rfl, zt_in 140 (by decide +kernel) rfl, ⟨by decide +kernel, by decide +kernel⟩, by decide +kernel, by decide, fun h => by contradiction, fun _ => ⟨zt_in 791 (by decide +kernel) rfl, zt_in 792 (by decide +kernel) rfl, zt_T6, 15, rfl⟩⟩, zt_XX, zt_okX, zt_okT (by decide +kernel)⟩
theorem zt_X_image_ok : zt_okk zt_X_image := ⟨⟨by decide +kernel, zt_in 801 (by decide +kernel) rfl, zt_in 140 (by decide +kernel) rfl, ⟨by decide +kernel, by decide +kernel⟩, by decide +kernel, by decide, fun h => by contradiction, fun _ => ⟨zt_in 799 (by decide +kernel) rfl, zt_in 800 (by decide +kernel) rfl, zt_T6, 15, rfl⟩⟩, zt_XX, zt_okX, zt_okT (by decide +kernel)⟩
theorem zt_X_restore_ok : zt_okk zt_X_restore := ⟨⟨by decide +kernel, zt_in 812 (by decide +kernel) rfl, zt_in 140 (by decide +kernel) rfl, ⟨by decide +kernel, by decide +kernel⟩, by decide +kernel, by decide, fun h => by contradiction, fun _ => ⟨zt_in 810 (by decide +kernel) rfl, zt_in 811 (by decide +kernel) rfl, zt_T6, 15, rfl⟩⟩, zt_XX, zt_okX, zt_okT (by decide +kernel)⟩
theorem zt_X_like_ok : zt_okk zt_X_like := ⟨⟨by decide +kernel, zt_in 816 (by decide +kernel) rfl, zt_in 140 (by decide +kernel) rfl, ⟨by decide +kernel, by decide +kernel⟩, by decide +kernel, by decide, fun h => by contradiction, fun _ => ⟨zt_in 814 (by decide +kernel) rfl, zt_in 815 (by decide +kernel) rfl, zt_T6, 15, rfl⟩⟩, zt_XX, zt_okX, zt_okT (by decide +kernel)⟩
theorem zt_X_drawn_ok : zt_okk zt_X_drawn := ⟨⟨by decide +kernel, zt_in 820 (by decide +kernel) rfl, zt_in 140 (by decide +kernel) rfl, ⟨by decide +kernel, by decide +kernel⟩, by decide +kernel, by decide, fun h => by contradiction, fun _ => ⟨zt_in 818 (by decide +kernel) rfl, zt_in 819 (by decide +kernel) rfl, zt_T6, 15, rfl⟩⟩, zt_XX, zt_okX, zt_okT (by decide +kernel)⟩
theorem zt_X_count_ok : zt_okk zt_X_count := ⟨⟨by decide +kernel, zt_in 833 (by decide +kernel) rfl, zt_in 140 (by decide +kernel) rfl, ⟨by decide +kernel, by decide +kernel⟩, by decide +kernel, by decide, fun h => by contradiction, fun _ => ⟨zt_in 831 (by decide +kernel) rfl, zt_in 832 (by decide +kernel) rfl, zt_T6, 15, rfl⟩⟩, zt_XX, zt_okX, zt_okT (by decide +kernel)⟩
theorem zt_X_digest_ok : zt_okk zt_X_digest := ⟨⟨by decide +kernel, zt_in 841 (by decide +kernel) rfl, zt_in 140 (by decide +kernel) rfl, ⟨by decide +kernel, by decide +kernel⟩, by decide +kernel, by decide, fun h => by contradiction, fun _ => ⟨zt_in 839 (by decide +kernel) rfl, zt_in 840 (by decide +kernel) rfl, zt_T6, 15, rfl⟩⟩, zt_XX, zt_okX, zt_okT (by decide +kernel)⟩
theorem zt_X_digestForm_ok : zt_okk zt_X_digestForm := ⟨⟨by decide +kernel, zt_in 846 (by decide +kernel) rfl, zt_in 140 (by decide +kernel) rfl, ⟨by decide +kernel, by decide +kernel⟩, by decide +kernel, by decide, fun h => by contradiction, fun _ => ⟨zt_in 845 (by decide +kernel) rfl, zt_in 68 (by decide +kernel) rfl, zt_T6, 15, rfl⟩⟩, zt_XX, zt_okX, zt_okT (by decide +kernel)⟩
theorem zt_X_digestFlats_ok : zt_okk zt_X_digestFlats := ⟨⟨by decide +kernel, zt_in 852 (by decide +kernel) rfl, zt_in 140 (by decide +kernel) rfl, ⟨by decide +kernel, by decide +kernel⟩, by decide +kernel, by decide, fun h => by contradiction, fun _ => ⟨zt_in 851 (by decide +kernel) rfl, zt_in 69 (by decide +kernel) rfl, zt_T6, 15, rfl⟩⟩, zt_XX, zt_okX, zt_okT (by decide +kernel)⟩
theorem zt_X_hasForm_ok : zt_okk zt_X_hasForm := ⟨⟨by decide +kernel, zt_in 467 (by decide +kernel) rfl, zt_in 140 (by decide +kernel) rfl, ⟨by decide +kernel, by decide +kernel⟩, by decide +kernel, by decide, fun h => by contradiction, fun _ => ⟨zt_in 466 (by decide +kernel) rfl, zt_in 12 (by decide +kernel) rfl, zt_T6, 15, rfl⟩⟩, zt_XX, zt_okX, zt_okT (by decide +kernel)⟩
theorem zt_X_hasFlats_ok : zt_okk zt_X_hasFlats := ⟨⟨by decide +kernel, zt_in 586 (by decide +kernel) rfl, zt_in 140 (by decide +kernel) rfl, ⟨by decide +kernel, by decide +kernel⟩, by decide +kernel, by decide, fun h => by contradiction, fun _ => ⟨zt_in 585 (by decide +kernel) rfl, zt_in 33 (by decide +kernel) rfl, zt_T6, 15, rfl⟩⟩, zt_XX, zt_okX, zt_okT (by decide +kernel)⟩
theorem zt_X_fillSides_ok : zt_okk zt_X_fillSides := ⟨⟨by decide +kernel, zt_in 620 (by decide +kernel) rfl, zt_in 140 (by decide +kernel) rfl, ⟨by decide +kernel, by decide +kernel⟩, by decide +kernel, by decide, fun h => by contradiction, fun _ => ⟨zt_in 619 (by decide +kernel) rfl, zt_in 40 (by decide +kernel) rfl, zt_T6, 15, rfl⟩⟩, zt_XX, zt_okX, zt_okT (by decide +kernel)⟩
theorem zt_X_forget_ok : zt_okk zt_X_forget := ⟨⟨by decide +kernel, zt_in 459 (by decide +kernel) rfl, zt_in 140 (by decide +kernel) rfl, ⟨by decide +kernel, by decide +kernel⟩, by decide +kernel, by decide, fun h => by contradiction, fun _ => ⟨zt_in 458 (by decide +kernel) rfl, zt_in 11 (by decide +kernel) rfl, zt_T6, 15, rfl⟩⟩, zt_XX, zt_okX, zt_okT (by decide +kernel)⟩
theorem zt_X_hasPoint_ok : zt_okk zt_X_hasPoint := ⟨⟨by decide +kernel, zt_in 536 (by decide +kernel) rfl, zt_in 140 (by decide +kernel) rfl, ⟨by decide +kernel, by decide +kernel⟩, by decide +kernel, by decide, fun h => by contradiction, fun _ => ⟨zt_in 535 (by decide +kernel) rfl, zt_in 26 (by decide +kernel) rfl, zt_T6, 15, rfl⟩⟩, zt_XX, zt_okX, zt_okT (by decide +kernel)⟩
theorem zt_X_isMember_ok : zt_okk zt_X_isMember := ⟨⟨by decide +kernel, zt_in 654 (by decide +kernel) rfl, zt_in 140 (by decide +kernel) rfl, ⟨by decide +kernel, by decide +kernel⟩, by decide +kernel, by decide, fun h => by contradiction, fun _ => ⟨zt_in 653 (by decide +kernel) rfl, zt_in 44 (by decide +kernel) rfl, zt_T6, 15, rfl⟩⟩, zt_XX, zt_okX, zt_okT (by decide +kernel)⟩
theorem zt_X_isGreatest_ok : zt_okk zt_X_isGreatest := ⟨⟨by decide +kernel, zt_in 658 (by decide +kernel) rfl, zt_in 140 (by decide +kernel) rfl, ⟨by decide +kernel, by decide +kernel⟩, by decide +kernel, by decide, fun h => by contradiction, fun _ => ⟨zt_in 657 (by decide +kernel) rfl, zt_in 45 (by decide +kernel) rfl, zt_T6, 15, rfl⟩⟩, zt_XX, zt_okX, zt_okT (by decide +kernel)⟩
theorem zt_X_pointTotal_ok : zt_okk zt_X_pointTotal := ⟨⟨by decide +kernel, zt_in 837 (by decide +kernel) rfl, zt_in 140 (by decide +kernel) rfl, ⟨by decide +kernel, by decide +kernel⟩, by decide +kernel, by decide, fun h => by contradiction, fun _ => ⟨zt_in 836 (by decide +kernel) rfl, zt_in 67 (by decide +kernel) rfl, zt_T6, 15, rfl⟩⟩, zt_XX, zt_okX, zt_okT (by decide +kernel)⟩
theorem zt_X_memberTotal_ok : zt_okk zt_X_memberTotal := ⟨⟨by decide +kernel, zt_in 773 (by decide +kernel) rfl, zt_in 140 (by decide +kernel) rfl, ⟨by decide +kernel, by decide +kernel⟩, by decide +kernel, by decide, fun h => by contradiction, fun _ => ⟨zt_in 772 (by decide +kernel) rfl, zt_in 62 (by decide +kernel) rfl, zt_T6, 15, rfl⟩⟩, zt_XX, zt_okX, zt_okT (by decide +kernel)⟩
theorem zt_X_sideOf_ok : zt_okk zt_X_sideOf := ⟨⟨by decide +kernel, zt_in 686 (by decide +kernel) rfl, zt_in 140 (by decide +kernel) rfl, ⟨by decide +kernel, by decide +kernel⟩, by decide +kernel, by decide, fun h => by contradiction, fun _ => ⟨zt_in 685 (by decide +kernel) rfl, zt_in 49 (by decide +kernel) rfl, zt_T6, 15, rfl⟩⟩, zt_XX, zt_okX, zt_okT (by decide +kernel)⟩
theorem zt_X_searchOf_ok : zt_okk zt_X_searchOf := ⟨⟨by decide +kernel, zt_in 714 (by decide +kernel) rfl, zt_in 140 (by decide +kernel) rfl, ⟨by decide +kernel, by decide +kernel⟩, by decide +kernel, by decide, fun h => by contradiction, fun _ => ⟨zt_in 713 (by decide +kernel) rfl, zt_in 53 (by decide +kernel) rfl, zt_T6, 15, rfl⟩⟩, zt_XX, zt_okX, zt_okT (by decide +kernel)⟩
theorem zt_X_entryOf_ok : zt_okk zt_X_entryOf := ⟨⟨by decide +kernel, zt_in 690 (by decide +kernel) rfl, zt_in 140 (by decide +kernel) rfl, ⟨by decide +kernel, by decide +kernel⟩, by decide +kernel, by decide, fun h => by contradiction, fun _ => ⟨zt_in 689 (by decide +kernel) rfl, zt_in 50 (by decide +kernel) rfl, zt_T6, 15, rfl⟩⟩, zt_XX, zt_okX, zt_okT (by decide +kernel)⟩
theorem zt_X_missing_ok : zt_okk zt_X_missing := ⟨⟨by decide +kernel, zt_in 702 (by decide +kernel) rfl, zt_in 140 (by decide +kernel) rfl, ⟨by decide +kernel, by decide +kernel⟩, by decide +kernel, by decide, fun h => by contradiction, fun _ => ⟨zt_in 701 (by decide +kernel) rfl, zt_in 51 (by decide +kernel) rfl, zt_T6, 15, rfl⟩⟩, zt_XX, zt_okX, zt_okT (by decide +kernel)⟩
theorem zt_X_nextSeed_ok : zt_okk zt_X_nextSeed := ⟨⟨by decide +kernel, zt_in 823 (by decide +kernel) rfl, zt_in 140 (by decide +kernel) rfl, ⟨by decide +kernel, by decide +kernel⟩, by decide +kernel, by decide, fun _ => zt_in 822 (by decide +kernel) rfl, fun h => by contradiction⟩, zt_XX, zt_okX, zt_okT (by decide +kernel)⟩
theorem zt_X_mod_ok : zt_okk zt_X_mod := ⟨⟨by decide +kernel, zt_in 443 (by decide +kernel) rfl, zt_in 140 (by decide +kernel) rfl, ⟨by decide +kernel, by decide +kernel⟩, by decide +kernel, by decide, fun _ => zt_in 442 (by decide +kernel) rfl, fun h => by contradiction⟩, zt_XX, zt_okX, zt_okT (by decide +kernel)⟩
theorem zt_X_inverse_ok : zt_okk zt_X_inverse := ⟨⟨by decide +kernel, zt_in 515 (by decide +kernel) rfl, zt_in 140 (by decide +kernel) rfl, ⟨by decide +kernel, by decide +kernel⟩, by decide +kernel, by decide, fun _ => zt_in 514 (by decide +kernel) rfl, fun h => by contradiction⟩, zt_XX, zt_okX, zt_okT (by decide +kernel)⟩
theorem zt_X_lowestBit_ok : zt_okk zt_X_lowestBit := ⟨⟨by decide +kernel, zt_in 646 (by decide +kernel) rfl, zt_in 140 (by decide +kernel) rfl, ⟨by decide +kernel, by decide +kernel⟩, by decide +kernel, by decide, fun _ => zt_in 645 (by decide +kernel) rfl, fun h => by contradiction⟩, zt_XX, zt_okX, zt_okT (by decide +kernel)⟩
theorem zt_M_within_ok : zt_okk zt_M_within := ⟨⟨by decide +kernel, zt_in 1009 (by decide +kernel) rfl, zt_in 147 (by decide +kernel) rfl, ⟨by decide +kernel, by decide +kernel⟩, by decide +kernel, by decide, fun _ => zt_in 1008 (by decide +kernel) rfl, fun h => by contradiction⟩, zt_XM, zt_okM, zt_okT (by decide +kernel)⟩
end
section
/-! methods, on (printed) -/
theorem zt_M_mod_ok : zt_okk zt_M_mod := ⟨⟨by decide +kernel, zt_in 1086 (by decide +kernel) rfl, zt_in 147 (by decide +kernel) rfl, ⟨by decide +kernel, by decide +kernel⟩, by decide +kernel, by decide, fun _ => zt_in 1085 (by decide +kernel) rfl, fun h => by contradiction⟩, zt_XM, zt_okM, zt_okT (by decide +kernel)⟩
theorem zt_M_letter_ok : zt_okk zt_M_letter := ⟨⟨by decide +kernel, zt_in 1006 (by decide +kernel) rfl, zt_in 147 (by decide +kernel) rfl, ⟨by decide +kernel, by decide +kernel⟩, by decide +kernel, by decide, fun h => by contradiction, fun _ => ⟨zt_in 1004 (by decide +kernel) rfl, zt_in 1005 (by decide +kernel) rfl, zt_T7, 47, rfl⟩⟩, zt_XM, zt_okM, zt_okT (by decide +kernel)⟩
theorem zt_M_blank_ok : zt_okk zt_M_blank := ⟨⟨by decide +kernel, zt_in 1013 (by decide +kernel) rfl, zt_in 147 (by decide +kernel) rfl, ⟨by decide +kernel, by decide +kernel⟩, by decide +kernel, by decide, fun h => by contradiction, fun _ => ⟨zt_in 1011 (by decide +kernel) rfl, zt_in 1012 (by decide +kernel) rfl, zt_T7, 47, rfl⟩⟩, zt_XM, zt_okM, zt_okT (by decide +kernel)⟩
theorem zt_M_mostOf_ok : zt_okk zt_M_mostOf := ⟨⟨by decide +kernel, zt_in 1032 (by decide +kernel) rfl, zt_in 147 (by decide +kernel) rfl, ⟨by decide +kernel, by decide +kernel⟩, by decide +kernel, by decide, fun _ => zt_in 1031 (by decide +kernel) rfl, fun h => by contradiction⟩, zt_XM, zt_okM, zt_okT (by decide +kernel)⟩
theorem zt_M_takesDigit_ok : zt_okk zt_M_takesDigit := ⟨⟨by decide +kernel, zt_in 1029 (by decide +kernel) rfl, zt_in 147 (by decide +kernel) rfl, ⟨by decide +kernel, by decide +kernel⟩, by decide +kernel, by decide, fun h => by contradiction, fun _ => ⟨zt_in 1028 (by decide +kernel) rfl, zt_in 72 (by decide +kernel) rfl, zt_T7, 47, rfl⟩⟩, zt_XM, zt_okM, zt_okT (by decide +kernel)⟩
theorem zt_M_takesSlash_ok : zt_okk zt_M_takesSlash := ⟨⟨by decide +kernel, zt_in 1036 (by decide +kernel) rfl, zt_in 147 (by decide +kernel) rfl, ⟨by decide +kernel, by decide +kernel⟩, by decide +kernel, by decide, fun h => by contradiction, fun _ => ⟨zt_in 1035 (by decide +kernel) rfl, zt_in 73 (by decide +kernel) rfl, zt_T7, 47, rfl⟩⟩, zt_XM, zt_okM, zt_okT (by decide +kernel)⟩
theorem zt_M_takes_ok : zt_okk zt_M_takes := ⟨⟨by decide +kernel, zt_in 1025 (by decide +kernel) rfl, zt_in 147 (by decide +kernel) rfl, ⟨by decide +kernel, by decide +kernel⟩, by decide +kernel, by decide, fun h => by contradiction, fun _ => ⟨zt_in 1024 (by decide +kernel) rfl, zt_in 71 (by decide +kernel) rfl, zt_T7, 47, rfl⟩⟩, zt_XM, zt_okM, zt_okT (by decide +kernel)⟩
theorem zt_M_read_ok : zt_okk zt_M_read := ⟨⟨by decide +kernel, zt_in 1021 (by decide +kernel) rfl, zt_in 147 (by decide +kernel) rfl, ⟨by decide +kernel, by decide +kernel⟩, by decide +kernel, by decide, fun h => by contradiction, fun _ => ⟨zt_in 1020 (by decide +kernel) rfl, zt_in 70 (by decide +kernel) rfl, zt_T7, 47, rfl⟩⟩, zt_XM, zt_okM, zt_okT (by decide +kernel)⟩
theorem zt_M_fault_ok : zt_okk zt_M_fault := ⟨⟨by decide +kernel, zt_in 1017 (by decide +kernel) rfl, zt_in 147 (by decide +kernel) rfl, ⟨by decide +kernel, by decide +kernel⟩, by decide +kernel, by decide, fun h => by contradiction, fun _ => ⟨zt_in 1015 (by decide +kernel) rfl, zt_in 1016 (by decide +kernel) rfl, zt_T7, 47, rfl⟩⟩, zt_XM, zt_okM, zt_okT (by decide +kernel)⟩
theorem zt_M_form_ok : zt_okk zt_M_form := ⟨⟨by decide +kernel, zt_in 1040 (by decide +kernel) rfl, zt_in 147 (by decide +kernel) rfl, ⟨by decide +kernel, by decide +kernel⟩, by decide +kernel, by decide, fun h => by contradiction, fun _ => ⟨zt_in 1038 (by decide +kernel) rfl, zt_in 1039 (by decide +kernel) rfl, zt_T7, 47, rfl⟩⟩, zt_XM, zt_okM, zt_okT (by decide +kernel)⟩
theorem zt_M_firstOf_ok : zt_okk zt_M_firstOf := ⟨⟨by decide +kernel, zt_in 1051 (by decide +kernel) rfl, zt_in 147 (by decide +kernel) rfl, ⟨by decide +kernel, by decide +kernel⟩, by decide +kernel, by decide, fun _ => zt_in 1050 (by decide +kernel) rfl, fun h => by contradiction⟩, zt_XM, zt_okM, zt_okT (by decide +kernel)⟩
theorem zt_M_layRow_ok : zt_okk zt_M_layRow := ⟨⟨by decide +kernel, zt_in 1048 (by decide +kernel) rfl, zt_in 147 (by decide +kernel) rfl, ⟨by decide +kernel, by decide +kernel⟩, by decide +kernel, by decide, fun h => by contradiction, fun _ => ⟨zt_in 1047 (by decide +kernel) rfl, zt_in 75 (by decide +kernel) rfl, zt_T7, 47, rfl⟩⟩, zt_XM, zt_okM, zt_okT (by decide +kernel)⟩
theorem zt_M_layPoints_ok : zt_okk zt_M_layPoints := ⟨⟨by decide +kernel, zt_in 1044 (by decide +kernel) rfl, zt_in 147 (by decide +kernel) rfl, ⟨by decide +kernel, by decide +kernel⟩, by decide +kernel, by decide, fun h => by contradiction, fun _ => ⟨zt_in 1043 (by decide +kernel) rfl, zt_in 74 (by decide +kernel) rfl, zt_T7, 47, rfl⟩⟩, zt_XM, zt_okM, zt_okT (by decide +kernel)⟩
theorem zt_M_pointOf_ok : zt_okk zt_M_pointOf := ⟨⟨by decide +kernel, zt_in 1106 (by decide +kernel) rfl, zt_in 147 (by decide +kernel) rfl, ⟨by decide +kernel, by decide +kernel⟩, by decide +kernel, by decide, fun h => by contradiction, fun _ => ⟨zt_in 1105 (by decide +kernel) rfl, zt_in 88 (by decide +kernel) rfl, zt_T7, 47, rfl⟩⟩, zt_XM, zt_okM, zt_okT (by decide +kernel)⟩
theorem zt_M_valueOf_ok : zt_okk zt_M_valueOf := ⟨⟨by decide +kernel, zt_in 1071 (by decide +kernel) rfl, zt_in 147 (by decide +kernel) rfl, ⟨by decide +kernel, by decide +kernel⟩, by decide +kernel, by decide, fun h => by contradiction, fun _ => ⟨zt_in 1070 (by decide +kernel) rfl, zt_in 80 (by decide +kernel) rfl, zt_T7, 47, rfl⟩⟩, zt_XM, zt_okM, zt_okT (by decide +kernel)⟩
theorem zt_M_polarOf_ok : zt_okk zt_M_polarOf := ⟨⟨by decide +kernel, zt_in 1083 (by decide +kernel) rfl, zt_in 147 (by decide +kernel) rfl, ⟨by decide +kernel, by decide +kernel⟩, by decide +kernel, by decide, fun h => by contradiction, fun _ => ⟨zt_in 1082 (by decide +kernel) rfl, zt_in 83 (by decide +kernel) rfl, zt_T7, 47, rfl⟩⟩, zt_XM, zt_okM, zt_okT (by decide +kernel)⟩
theorem zt_M_take_ok : zt_okk zt_M_take := ⟨⟨by decide +kernel, zt_in 1067 (by decide +kernel) rfl, zt_in 147 (by decide +kernel) rfl, ⟨by decide +kernel, by decide +kernel⟩, by decide +kernel, by decide, fun h => by contradiction, fun _ => ⟨zt_in 1066 (by decide +kernel) rfl, zt_in 79 (by decide +kernel) rfl, zt_T7, 47, rfl⟩⟩, zt_XM, zt_okM, zt_okT (by decide +kernel)⟩
theorem zt_M_valueAt_ok : zt_okk zt_M_valueAt := ⟨⟨by decide +kernel, zt_in 1063 (by decide +kernel) rfl, zt_in 147 (by decide +kernel) rfl, ⟨by decide +kernel, by decide +kernel⟩, by decide +kernel, by decide, fun h => by contradiction, fun _ => ⟨zt_in 1062 (by decide +kernel) rfl, zt_in 78 (by decide +kernel) rfl, zt_T7, 47, rfl⟩⟩, zt_XM, zt_okM, zt_okT (by decide +kernel)⟩
theorem zt_M_polarAt_ok : zt_okk zt_M_polarAt := ⟨⟨by decide +kernel, zt_in 1079 (by decide +kernel) rfl, zt_in 147 (by decide +kernel) rfl, ⟨by decide +kernel, by decide +kernel⟩, by decide +kernel, by decide, fun h => by contradiction, fun _ => ⟨zt_in 1078 (by decide +kernel) rfl, zt_in 82 (by decide +kernel) rfl, zt_T7, 47, rfl⟩⟩, zt_XM, zt_okM, zt_okT (by decide +kernel)⟩
theorem zt_M_mix_ok : zt_okk zt_M_mix := ⟨⟨by decide +kernel, zt_in 1102 (by decide +kernel) rfl, zt_in 147 (by decide +kernel) rfl, ⟨by decide +kernel, by decide +kernel⟩, by decide +kernel, by decide, fun h => by contradiction, fun _ => ⟨zt_in 1101 (by decide +kernel) rfl, zt_in 87 (by decide +kernel) rfl, zt_T7, 47, rfl⟩⟩, zt_XM, zt_okM, zt_okT (by decide +kernel)⟩
theorem zt_M_isJoined_ok : zt_okk zt_M_isJoined := ⟨⟨by decide +kernel, zt_in 1209 (by decide +kernel) rfl, zt_in 147 (by decide +kernel) rfl, ⟨by decide +kernel, by decide +kernel⟩, by decide +kernel, by decide, fun h => by contradiction, fun _ => ⟨zt_in 1208 (by decide +kernel) rfl, zt_in 107 (by decide +kernel) rfl, zt_T7, 47, rfl⟩⟩, zt_XM, zt_okM, zt_okT (by decide +kernel)⟩
theorem zt_M_isSingular_ok : zt_okk zt_M_isSingular := ⟨⟨by decide +kernel, zt_in 1075 (by decide +kernel) rfl, zt_in 147 (by decide +kernel) rfl, ⟨by decide +kernel, by decide +kernel⟩, by decide +kernel, by decide, fun h => by contradiction, fun _ => ⟨zt_in 1074 (by decide +kernel) rfl, zt_in 81 (by decide +kernel) rfl, zt_T7, 47, rfl⟩⟩, zt_XM, zt_okM, zt_okT (by decide +kernel)⟩
theorem zt_M_addTo_ok : zt_okk zt_M_addTo := ⟨⟨by decide +kernel, zt_in 1098 (by decide +kernel) rfl, zt_in 147 (by decide +kernel) rfl, ⟨by decide +kernel, by decide +kernel⟩, by decide +kernel, by decide, fun h => by contradiction, fun _ => ⟨zt_in 1097 (by decide +kernel) rfl, zt_in 86 (by decide +kernel) rfl, zt_T7, 47, rfl⟩⟩, zt_XM, zt_okM, zt_okT (by decide +kernel)⟩
theorem zt_M_isIn_ok : zt_okk zt_M_isIn := ⟨⟨by decide +kernel, zt_in 1122 (by decide +kernel) rfl, zt_in 147 (by decide +kernel) rfl, ⟨by decide +kernel, by decide +kernel⟩, by decide +kernel, by decide, fun h => by contradiction, fun _ => ⟨zt_in 1121 (by decide +kernel) rfl, zt_in 92 (by decide +kernel) rfl, zt_T7, 47, rfl⟩⟩, zt_XM, zt_okM, zt_okT (by decide +kernel)⟩
theorem zt_M_layLine_ok : zt_okk zt_M_layLine := ⟨⟨by decide +kernel, zt_in 1094 (by decide +kernel) rfl, zt_in 147 (by decide +kernel) rfl, ⟨by decide +kernel, by decide +kernel⟩, by decide +kernel, by decide, fun h => by contradiction, fun _ => ⟨zt_in 1093 (by decide +kernel) rfl, zt_in 85 (by decide +kernel) rfl, zt_T7, 47, rfl⟩⟩, zt_XM, zt_okM, zt_okT (by decide +kernel)⟩
theorem zt_M_widen_ok : zt_okk zt_M_widen := ⟨⟨by decide +kernel, zt_in 1126 (by decide +kernel) rfl, zt_in 147 (by decide +kernel) rfl, ⟨by decide +kernel, by decide +kernel⟩, by decide +kernel, by decide, fun h => by contradiction, fun _ => ⟨zt_in 1125 (by decide +kernel) rfl, zt_in 93 (by decide +kernel) rfl, zt_T7, 47, rfl⟩⟩, zt_XM, zt_okM, zt_okT (by decide +kernel)⟩
theorem zt_M_areOn_ok : zt_okk zt_M_areOn := ⟨⟨by decide +kernel, zt_in 1110 (by decide +kernel) rfl, zt_in 147 (by decide +kernel) rfl, ⟨by decide +kernel, by decide +kernel⟩, by decide +kernel, by decide, fun h => by contradiction, fun _ => ⟨zt_in 1109 (by decide +kernel) rfl, zt_in 89 (by decide +kernel) rfl, zt_T7, 47, rfl⟩⟩, zt_XM, zt_okM, zt_okT (by decide +kernel)⟩
theorem zt_M_layLines_ok : zt_okk zt_M_layLines := ⟨⟨by decide +kernel, zt_in 1090 (by decide +kernel) rfl, zt_in 147 (by decide +kernel) rfl, ⟨by decide +kernel, by decide +kernel⟩, by decide +kernel, by decide, fun h => by contradiction, fun _ => ⟨zt_in 1089 (by decide +kernel) rfl, zt_in 84 (by decide +kernel) rfl, zt_T7, 47, rfl⟩⟩, zt_XM, zt_okM, zt_okT (by decide +kernel)⟩
theorem zt_M_layPlane_ok : zt_okk zt_M_layPlane := ⟨⟨by decide +kernel, zt_in 1118 (by decide +kernel) rfl, zt_in 147 (by decide +kernel) rfl, ⟨by decide +kernel, by decide +kernel⟩, by decide +kernel, by decide, fun h => by contradiction, fun _ => ⟨zt_in 1117 (by decide +kernel) rfl, zt_in 91 (by decide +kernel) rfl, zt_T7, 47, rfl⟩⟩, zt_XM, zt_okM, zt_okT (by decide +kernel)⟩
theorem zt_M_isOfLine_ok : zt_okk zt_M_isOfLine := ⟨⟨by decide +kernel, zt_in 1130 (by decide +kernel) rfl, zt_in 147 (by decide +kernel) rfl, ⟨by decide +kernel, by decide +kernel⟩, by decide +kernel, by decide, fun h => by contradiction, fun _ => ⟨zt_in 1129 (by decide +kernel) rfl, zt_in 94 (by decide +kernel) rfl, zt_T7, 47, rfl⟩⟩, zt_XM, zt_okM, zt_okT (by decide +kernel)⟩
theorem zt_M_layPlanes_ok : zt_okk zt_M_layPlanes := ⟨⟨by decide +kernel, zt_in 1114 (by decide +kernel) rfl, zt_in 147 (by decide +kernel) rfl, ⟨by decide +kernel, by decide +kernel⟩, by decide +kernel, by decide, fun h => by contradiction, fun _ => ⟨zt_in 1113 (by decide +kernel) rfl, zt_in 90 (by decide +kernel) rfl, zt_T7, 47, rfl⟩⟩, zt_XM, zt_okM, zt_okT (by decide +kernel)⟩
theorem zt_M_layForm_ok : zt_okk zt_M_layForm := ⟨⟨by decide +kernel, zt_in 1059 (by decide +kernel) rfl, zt_in 147 (by decide +kernel) rfl, ⟨by decide +kernel, by decide +kernel⟩, by decide +kernel, by decide, fun h => by contradiction, fun _ => ⟨zt_in 1058 (by decide +kernel) rfl, zt_in 77 (by decide +kernel) rfl, zt_T7, 47, rfl⟩⟩, zt_XM, zt_okM, zt_okT (by decide +kernel)⟩
theorem zt_M_layNew_ok : zt_okk zt_M_layNew := ⟨⟨by decide +kernel, zt_in 1055 (by decide +kernel) rfl, zt_in 147 (by decide +kernel) rfl, ⟨by decide +kernel, by decide +kernel⟩, by decide +kernel, by decide, fun h => by contradiction, fun _ => ⟨zt_in 1054 (by decide +kernel) rfl, zt_in 76 (by decide +kernel) rfl, zt_T7, 47, rfl⟩⟩, zt_XM, zt_okM, zt_okT (by decide +kernel)⟩
theorem zt_M_isForm_ok : zt_okk zt_M_isForm := ⟨⟨by decide +kernel, zt_in 1138 (by decide +kernel) rfl, zt_in 147 (by decide +kernel) rfl, ⟨by decide +kernel, by decide +kernel⟩, by decide +kernel, by decide, fun h => by contradiction, fun _ => ⟨zt_in 1137 (by decide +kernel) rfl, zt_in 95 (by decide +kernel) rfl, zt_T7, 47, rfl⟩⟩, zt_XM, zt_okM, zt_okT (by decide +kernel)⟩
theorem zt_M_isSound_ok : zt_okk zt_M_isSound := ⟨⟨by decide +kernel, zt_in 1174 (by decide +kernel) rfl, zt_in 147 (by decide +kernel) rfl, ⟨by decide +kernel, by decide +kernel⟩, by decide +kernel, by decide, fun h => by contradiction, fun _ => ⟨zt_in 1173 (by decide +kernel) rfl, zt_in 104 (by decide +kernel) rfl, zt_T7, 47, rfl⟩⟩, zt_XM, zt_okM, zt_okT (by decide +kernel)⟩
theorem zt_M_index_ok : zt_okk zt_M_index := ⟨⟨by decide +kernel, zt_in 1150 (by decide +kernel) rfl, zt_in 147 (by decide +kernel) rfl, ⟨by decide +kernel, by decide +kernel⟩, by decide +kernel, by decide, fun h => by contradiction, fun _ => ⟨zt_in 1149 (by decide +kernel) rfl, zt_in 98 (by decide +kernel) rfl, zt_T7, 47, rfl⟩⟩, zt_XM, zt_okM, zt_okT (by decide +kernel)⟩
end
section
/-! methods, on (printed) -/
theorem zt_M_onAt_ok : zt_okk zt_M_onAt := ⟨⟨by decide +kernel, zt_in 1253 (by decide +kernel) rfl, zt_in 147 (by decide +kernel) rfl, ⟨by decide +kernel, by decide +kernel⟩, by decide +kernel, by decide, fun h => by contradiction, fun _ => ⟨zt_in 1252 (by decide +kernel) rfl, zt_in 115 (by decide +kernel) rfl, zt_T7, 47, rfl⟩⟩, zt_XM, zt_okM, zt_okT (by decide +kernel)⟩
theorem zt_M_flatsOf_ok : zt_okk zt_M_flatsOf := ⟨⟨by decide +kernel, zt_in 1237 (by decide +kernel) rfl, zt_in 147 (by decide +kernel) rfl, ⟨by decide +kernel, by decide +kernel⟩, by decide +kernel, by decide, fun h => by contradiction, fun _ => ⟨zt_in 1236 (by decide +kernel) rfl, zt_in 112 (by decide +kernel) rfl, zt_T7, 47, rfl⟩⟩, zt_XM, zt_okM, zt_okT (by decide +kernel)⟩
theorem zt_M_sizeOf_ok : zt_okk zt_M_sizeOf := ⟨⟨by decide +kernel, zt_in 1245 (by decide +kernel) rfl, zt_in 147 (by decide +kernel) rfl, ⟨by decide +kernel, by decide +kernel⟩, by decide +kernel, by decide, fun h => by contradiction, fun _ => ⟨zt_in 1244 (by decide +kernel) rfl, zt_in 113 (by decide +kernel) rfl, zt_T7, 47, rfl⟩⟩, zt_XM, zt_okM, zt_okT (by decide +kernel)⟩
theorem zt_M_pointIn_ok : zt_okk zt_M_pointIn := ⟨⟨by decide +kernel, zt_in 1249 (by decide +kernel) rfl, zt_in 147 (by decide +kernel) rfl, ⟨by decide +kernel, by decide +kernel⟩, by decide +kernel, by decide, fun h => by contradiction, fun _ => ⟨zt_in 1248 (by decide +kernel) rfl, zt_in 114 (by decide +kernel) rfl, zt_T7, 47, rfl⟩⟩, zt_XM, zt_okM, zt_okT (by decide +kernel)⟩
theorem zt_M_greatestMany_ok : zt_okk zt_M_greatestMany := ⟨⟨by decide +kernel, zt_in 1269 (by decide +kernel) rfl, zt_in 147 (by decide +kernel) rfl, ⟨by decide +kernel, by decide +kernel⟩, by decide +kernel, by decide, fun h => by contradiction, fun _ => ⟨zt_in 1268 (by decide +kernel) rfl, zt_in 118 (by decide +kernel) rfl, zt_T7, 47, rfl⟩⟩, zt_XM, zt_okM, zt_okT (by decide +kernel)⟩
theorem zt_M_has_ok : zt_okk zt_M_has := ⟨⟨by decide +kernel, zt_in 1293 (by decide +kernel) rfl, zt_in 147 (by decide +kernel) rfl, ⟨by decide +kernel, by decide +kernel⟩, by decide +kernel, by decide, fun h => by contradiction, fun _ => ⟨zt_in 1292 (by decide +kernel) rfl, zt_in 123 (by decide +kernel) rfl, zt_T7, 47, rfl⟩⟩, zt_XM, zt_okM, zt_okT (by decide +kernel)⟩
theorem zt_M_kind_ok : zt_okk zt_M_kind := ⟨⟨by decide +kernel, zt_in 1146 (by decide +kernel) rfl, zt_in 147 (by decide +kernel) rfl, ⟨by decide +kernel, by decide +kernel⟩, by decide +kernel, by decide, fun h => by contradiction, fun _ => ⟨zt_in 1145 (by decide +kernel) rfl, zt_in 97 (by decide +kernel) rfl, zt_T7, 47, rfl⟩⟩, zt_XM, zt_okM, zt_okT (by decide +kernel)⟩
theorem zt_M_layMatrix_ok : zt_okk zt_M_layMatrix := ⟨⟨by decide +kernel, zt_in 1158 (by decide +kernel) rfl, zt_in 147 (by decide +kernel) rfl, ⟨by decide +kernel, by decide +kernel⟩, by decide +kernel, by decide, fun h => by contradiction, fun _ => ⟨zt_in 1157 (by decide +kernel) rfl, zt_in 100 (by decide +kernel) rfl, zt_T7, 47, rfl⟩⟩, zt_XM, zt_okM, zt_okT (by decide +kernel)⟩
theorem zt_M_determinant_ok : zt_okk zt_M_determinant := ⟨⟨by decide +kernel, zt_in 1162 (by decide +kernel) rfl, zt_in 147 (by decide +kernel) rfl, ⟨by decide +kernel, by decide +kernel⟩, by decide +kernel, by decide, fun h => by contradiction, fun _ => ⟨zt_in 1161 (by decide +kernel) rfl, zt_in 101 (by decide +kernel) rfl, zt_T7, 47, rfl⟩⟩, zt_XM, zt_okM, zt_okT (by decide +kernel)⟩
theorem zt_M_swapLines_ok : zt_okk zt_M_swapLines := ⟨⟨by decide +kernel, zt_in 1166 (by decide +kernel) rfl, zt_in 147 (by decide +kernel) rfl, ⟨by decide +kernel, by decide +kernel⟩, by decide +kernel, by decide, fun h => by contradiction, fun _ => ⟨zt_in 1165 (by decide +kernel) rfl, zt_in 102 (by decide +kernel) rfl, zt_T7, 47, rfl⟩⟩, zt_XM, zt_okM, zt_okT (by decide +kernel)⟩
theorem zt_M_clearBelow_ok : zt_okk zt_M_clearBelow := ⟨⟨by decide +kernel, zt_in 1170 (by decide +kernel) rfl, zt_in 147 (by decide +kernel) rfl, ⟨by decide +kernel, by decide +kernel⟩, by decide +kernel, by decide, fun h => by contradiction, fun _ => ⟨zt_in 1169 (by decide +kernel) rfl, zt_in 103 (by decide +kernel) rfl, zt_T7, 47, rfl⟩⟩, zt_XM, zt_okM, zt_okT (by decide +kernel)⟩
theorem zt_M_disc_ok : zt_okk zt_M_disc := ⟨⟨by decide +kernel, zt_in 1154 (by decide +kernel) rfl, zt_in 147 (by decide +kernel) rfl, ⟨by decide +kernel, by decide +kernel⟩, by decide +kernel, by decide, fun h => by contradiction, fun _ => ⟨zt_in 1153 (by decide +kernel) rfl, zt_in 99 (by decide +kernel) rfl, zt_T7, 47, rfl⟩⟩, zt_XM, zt_okM, zt_okT (by decide +kernel)⟩
theorem zt_M_aboutNow_ok : zt_okk zt_M_aboutNow := ⟨⟨by decide +kernel, zt_in 1142 (by decide +kernel) rfl, zt_in 147 (by decide +kernel) rfl, ⟨by decide +kernel, by decide +kernel⟩, by decide +kernel, by decide, fun h => by contradiction, fun _ => ⟨zt_in 1141 (by decide +kernel) rfl, zt_in 96 (by decide +kernel) rfl, zt_T7, 47, rfl⟩⟩, zt_XM, zt_okM, zt_okT (by decide +kernel)⟩
theorem zt_M_about_ok : zt_okk zt_M_about := ⟨⟨by decide +kernel, zt_in 1134 (by decide +kernel) rfl, zt_in 147 (by decide +kernel) rfl, ⟨by decide +kernel, by decide +kernel⟩, by decide +kernel, by decide, fun h => by contradiction, fun _ => ⟨zt_in 1132 (by decide +kernel) rfl, zt_in 1133 (by decide +kernel) rfl, zt_T7, 47, rfl⟩⟩, zt_XM, zt_okM, zt_okT (by decide +kernel)⟩
theorem zt_M_isVariable_ok : zt_okk zt_M_isVariable := ⟨⟨by decide +kernel, zt_in 1182 (by decide +kernel) rfl, zt_in 147 (by decide +kernel) rfl, ⟨by decide +kernel, by decide +kernel⟩, by decide +kernel, by decide, fun h => by contradiction, fun _ => ⟨zt_in 1181 (by decide +kernel) rfl, zt_in 105 (by decide +kernel) rfl, zt_T7, 47, rfl⟩⟩, zt_XM, zt_okM, zt_okT (by decide +kernel)⟩
theorem zt_M_placeOf_ok : zt_okk zt_M_placeOf := ⟨⟨by decide +kernel, zt_in 1185 (by decide +kernel) rfl, zt_in 147 (by decide +kernel) rfl, ⟨by decide +kernel, by decide +kernel⟩, by decide +kernel, by decide, fun _ => zt_in 1184 (by decide +kernel) rfl, fun h => by contradiction⟩, zt_XM, zt_okM, zt_okT (by decide +kernel)⟩
theorem zt_M_coefficient_ok : zt_okk zt_M_coefficient := ⟨⟨by decide +kernel, zt_in 1178 (by decide +kernel) rfl, zt_in 147 (by decide +kernel) rfl, ⟨by decide +kernel, by decide +kernel⟩, by decide +kernel, by decide, fun h => by contradiction, fun _ => ⟨zt_in 1176 (by decide +kernel) rfl, zt_in 1177 (by decide +kernel) rfl, zt_T7, 47, rfl⟩⟩, zt_XM, zt_okM, zt_okT (by decide +kernel)⟩
theorem zt_M_isPoint_ok : zt_okk zt_M_isPoint := ⟨⟨by decide +kernel, zt_in 1193 (by decide +kernel) rfl, zt_in 147 (by decide +kernel) rfl, ⟨by decide +kernel, by decide +kernel⟩, by decide +kernel, by decide, fun h => by contradiction, fun _ => ⟨zt_in 1192 (by decide +kernel) rfl, zt_in 106 (by decide +kernel) rfl, zt_T7, 47, rfl⟩⟩, zt_XM, zt_okM, zt_okT (by decide +kernel)⟩
theorem zt_M_point_ok : zt_okk zt_M_point := ⟨⟨by decide +kernel, zt_in 1189 (by decide +kernel) rfl, zt_in 147 (by decide +kernel) rfl, ⟨by decide +kernel, by decide +kernel⟩, by decide +kernel, by decide, fun h => by contradiction, fun _ => ⟨zt_in 1187 (by decide +kernel) rfl, zt_in 1188 (by decide +kernel) rfl, zt_T7, 47, rfl⟩⟩, zt_XM, zt_okM, zt_okT (by decide +kernel)⟩
theorem zt_M_value_ok : zt_okk zt_M_value := ⟨⟨by decide +kernel, zt_in 1197 (by decide +kernel) rfl, zt_in 147 (by decide +kernel) rfl, ⟨by decide +kernel, by decide +kernel⟩, by decide +kernel, by decide, fun h => by contradiction, fun _ => ⟨zt_in 1195 (by decide +kernel) rfl, zt_in 1196 (by decide +kernel) rfl, zt_T7, 47, rfl⟩⟩, zt_XM, zt_okM, zt_okT (by decide +kernel)⟩
theorem zt_M_polar_ok : zt_okk zt_M_polar := ⟨⟨by decide +kernel, zt_in 1201 (by decide +kernel) rfl, zt_in 147 (by decide +kernel) rfl, ⟨by decide +kernel, by decide +kernel⟩, by decide +kernel, by decide, fun h => by contradiction, fun _ => ⟨zt_in 1199 (by decide +kernel) rfl, zt_in 1200 (by decide +kernel) rfl, zt_T7, 47, rfl⟩⟩, zt_XM, zt_okM, zt_okT (by decide +kernel)⟩
theorem zt_M_joined_ok : zt_okk zt_M_joined := ⟨⟨by decide +kernel, zt_in 1205 (by decide +kernel) rfl, zt_in 147 (by decide +kernel) rfl, ⟨by decide +kernel, by decide +kernel⟩, by decide +kernel, by decide, fun h => by contradiction, fun _ => ⟨zt_in 1203 (by decide +kernel) rfl, zt_in 1204 (by decide +kernel) rfl, zt_T7, 47, rfl⟩⟩, zt_XM, zt_okM, zt_okT (by decide +kernel)⟩
theorem zt_M_isInSection_ok : zt_okk zt_M_isInSection := ⟨⟨by decide +kernel, zt_in 1221 (by decide +kernel) rfl, zt_in 147 (by decide +kernel) rfl, ⟨by decide +kernel, by decide +kernel⟩, by decide +kernel, by decide, fun h => by contradiction, fun _ => ⟨zt_in 1220 (by decide +kernel) rfl, zt_in 109 (by decide +kernel) rfl, zt_T7, 47, rfl⟩⟩, zt_XM, zt_okM, zt_okT (by decide +kernel)⟩
theorem zt_M_sectionOn_ok : zt_okk zt_M_sectionOn := ⟨⟨by decide +kernel, zt_in 1217 (by decide +kernel) rfl, zt_in 147 (by decide +kernel) rfl, ⟨by decide +kernel, by decide +kernel⟩, by decide +kernel, by decide, fun h => by contradiction, fun _ => ⟨zt_in 1216 (by decide +kernel) rfl, zt_in 108 (by decide +kernel) rfl, zt_T7, 47, rfl⟩⟩, zt_XM, zt_okM, zt_okT (by decide +kernel)⟩
theorem zt_M_isTouched_ok : zt_okk zt_M_isTouched := ⟨⟨by decide +kernel, zt_in 1229 (by decide +kernel) rfl, zt_in 147 (by decide +kernel) rfl, ⟨by decide +kernel, by decide +kernel⟩, by decide +kernel, by decide, fun h => by contradiction, fun _ => ⟨zt_in 1228 (by decide +kernel) rfl, zt_in 111 (by decide +kernel) rfl, zt_T7, 47, rfl⟩⟩, zt_XM, zt_okM, zt_okT (by decide +kernel)⟩
theorem zt_M_touches_ok : zt_okk zt_M_touches := ⟨⟨by decide +kernel, zt_in 1225 (by decide +kernel) rfl, zt_in 147 (by decide +kernel) rfl, ⟨by decide +kernel, by decide +kernel⟩, by decide +kernel, by decide, fun h => by contradiction, fun _ => ⟨zt_in 1224 (by decide +kernel) rfl, zt_in 110 (by decide +kernel) rfl, zt_T7, 47, rfl⟩⟩, zt_XM, zt_okM, zt_okT (by decide +kernel)⟩
theorem zt_M_section_ok : zt_okk zt_M_section := ⟨⟨by decide +kernel, zt_in 1213 (by decide +kernel) rfl, zt_in 147 (by decide +kernel) rfl, ⟨by decide +kernel, by decide +kernel⟩, by decide +kernel, by decide, fun h => by contradiction, fun _ => ⟨zt_in 1211 (by decide +kernel) rfl, zt_in 1212 (by decide +kernel) rfl, zt_T7, 47, rfl⟩⟩, zt_XM, zt_okM, zt_okT (by decide +kernel)⟩
theorem zt_M_flats_ok : zt_okk zt_M_flats := ⟨⟨by decide +kernel, zt_in 1233 (by decide +kernel) rfl, zt_in 147 (by decide +kernel) rfl, ⟨by decide +kernel, by decide +kernel⟩, by decide +kernel, by decide, fun h => by contradiction, fun _ => ⟨zt_in 1231 (by decide +kernel) rfl, zt_in 1232 (by decide +kernel) rfl, zt_T7, 47, rfl⟩⟩, zt_XM, zt_okM, zt_okT (by decide +kernel)⟩
theorem zt_M_flat_ok : zt_okk zt_M_flat := ⟨⟨by decide +kernel, zt_in 1241 (by decide +kernel) rfl, zt_in 147 (by decide +kernel) rfl, ⟨by decide +kernel, by decide +kernel⟩, by decide +kernel, by decide, fun h => by contradiction, fun _ => ⟨zt_in 1239 (by decide +kernel) rfl, zt_in 1240 (by decide +kernel) rfl, zt_T7, 47, rfl⟩⟩, zt_XM, zt_okM, zt_okT (by decide +kernel)⟩
theorem zt_M_isGreatest_ok : zt_okk zt_M_isGreatest := ⟨⟨by decide +kernel, zt_in 1265 (by decide +kernel) rfl, zt_in 147 (by decide +kernel) rfl, ⟨by decide +kernel, by decide +kernel⟩, by decide +kernel, by decide, fun h => by contradiction, fun _ => ⟨zt_in 1264 (by decide +kernel) rfl, zt_in 117 (by decide +kernel) rfl, zt_T7, 47, rfl⟩⟩, zt_XM, zt_okM, zt_okT (by decide +kernel)⟩
theorem zt_M_isOnPoint_ok : zt_okk zt_M_isOnPoint := ⟨⟨by decide +kernel, zt_in 1261 (by decide +kernel) rfl, zt_in 147 (by decide +kernel) rfl, ⟨by decide +kernel, by decide +kernel⟩, by decide +kernel, by decide, fun h => by contradiction, fun _ => ⟨zt_in 1260 (by decide +kernel) rfl, zt_in 116 (by decide +kernel) rfl, zt_T7, 47, rfl⟩⟩, zt_XM, zt_okM, zt_okT (by decide +kernel)⟩
theorem zt_M_nearNow_ok : zt_okk zt_M_nearNow := ⟨⟨by decide +kernel, zt_in 1273 (by decide +kernel) rfl, zt_in 147 (by decide +kernel) rfl, ⟨by decide +kernel, by decide +kernel⟩, by decide +kernel, by decide, fun h => by contradiction, fun _ => ⟨zt_in 1272 (by decide +kernel) rfl, zt_in 119 (by decide +kernel) rfl, zt_T7, 47, rfl⟩⟩, zt_XM, zt_okM, zt_okT (by decide +kernel)⟩
theorem zt_M_near_ok : zt_okk zt_M_near := ⟨⟨by decide +kernel, zt_in 1257 (by decide +kernel) rfl, zt_in 147 (by decide +kernel) rfl, ⟨by decide +kernel, by decide +kernel⟩, by decide +kernel, by decide, fun h => by contradiction, fun _ => ⟨zt_in 1255 (by decide +kernel) rfl, zt_in 1256 (by decide +kernel) rfl, zt_T7, 47, rfl⟩⟩, zt_XM, zt_okM, zt_okT (by decide +kernel)⟩
theorem zt_M_reach_ok : zt_okk zt_M_reach := ⟨⟨by decide +kernel, zt_in 1289 (by decide +kernel) rfl, zt_in 147 (by decide +kernel) rfl, ⟨by decide +kernel, by decide +kernel⟩, by decide +kernel, by decide, fun h => by contradiction, fun _ => ⟨zt_in 1288 (by decide +kernel) rfl, zt_in 122 (by decide +kernel) rfl, zt_T7, 47, rfl⟩⟩, zt_XM, zt_okM, zt_okT (by decide +kernel)⟩
theorem zt_M_reached_ok : zt_okk zt_M_reached := ⟨⟨by decide +kernel, zt_in 1285 (by decide +kernel) rfl, zt_in 147 (by decide +kernel) rfl, ⟨by decide +kernel, by decide +kernel⟩, by decide +kernel, by decide, fun h => by contradiction, fun _ => ⟨zt_in 1284 (by decide +kernel) rfl, zt_in 121 (by decide +kernel) rfl, zt_T7, 47, rfl⟩⟩, zt_XM, zt_okM, zt_okT (by decide +kernel)⟩
theorem zt_M_choose_ok : zt_okk zt_M_choose := ⟨⟨by decide +kernel, zt_in 1281 (by decide +kernel) rfl, zt_in 147 (by decide +kernel) rfl, ⟨by decide +kernel, by decide +kernel⟩, by decide +kernel, by decide, fun h => by contradiction, fun _ => ⟨zt_in 1280 (by decide +kernel) rfl, zt_in 120 (by decide +kernel) rfl, zt_T7, 47, rfl⟩⟩, zt_XM, zt_okM, zt_okT (by decide +kernel)⟩
end
section
/-! methods, on (printed) -/
theorem zt_M_pick_ok : zt_okk zt_M_pick := ⟨⟨by decide +kernel, zt_in 1277 (by decide +kernel) rfl, zt_in 147 (by decide +kernel) rfl, ⟨by decide +kernel, by decide +kernel⟩, by decide +kernel, by decide, fun h => by contradiction, fun _ => ⟨zt_in 1275 (by decide +kernel) rfl, zt_in 1276 (by decide +kernel) rfl, zt_T7, 47, rfl⟩⟩, zt_XM, zt_okM, zt_okT (by decide +kernel)⟩
theorem zt_M_gather_ok : zt_okk zt_M_gather := ⟨⟨by decide +kernel, zt_in 1297 (by decide +kernel) rfl, zt_in 147 (by decide +kernel) rfl, ⟨by decide +kernel, by decide +kernel⟩, by decide +kernel, by decide, fun h => by contradiction, fun _ => ⟨zt_in 1295 (by decide +kernel) rfl, zt_in 1296 (by decide +kernel) rfl, zt_T7, 47, rfl⟩⟩, zt_XM, zt_okM, zt_okT (by decide +kernel)⟩
theorem zt_M_isOf_ok : zt_okk zt_M_isOf := ⟨⟨by decide +kernel, zt_in 1304 (by decide +kernel) rfl, zt_in 147 (by decide +kernel) rfl, ⟨by decide +kernel, by decide +kernel⟩, by decide +kernel, by decide, fun _ => zt_in 1303 (by decide +kernel) rfl, fun h => by contradiction⟩, zt_XM, zt_okM, zt_okT (by decide +kernel)⟩
theorem zt_M_drop_ok : zt_okk zt_M_drop := ⟨⟨by decide +kernel, zt_in 1301 (by decide +kernel) rfl, zt_in 147 (by decide +kernel) rfl, ⟨by decide +kernel, by decide +kernel⟩, by decide +kernel, by decide, fun h => by contradiction, fun _ => ⟨zt_in 1299 (by decide +kernel) rfl, zt_in 1300 (by decide +kernel) rfl, zt_T7, 47, rfl⟩⟩, zt_XM, zt_okM, zt_okT (by decide +kernel)⟩
theorem zt_M_chosen_ok : zt_okk zt_M_chosen := ⟨⟨by decide +kernel, zt_in 1308 (by decide +kernel) rfl, zt_in 147 (by decide +kernel) rfl, ⟨by decide +kernel, by decide +kernel⟩, by decide +kernel, by decide, fun h => by contradiction, fun _ => ⟨zt_in 1306 (by decide +kernel) rfl, zt_in 1307 (by decide +kernel) rfl, zt_T7, 47, rfl⟩⟩, zt_XM, zt_okM, zt_okT (by decide +kernel)⟩
theorem zt_M_size_ok : zt_okk zt_M_size := ⟨⟨by decide +kernel, zt_in 1323 (by decide +kernel) rfl, zt_in 147 (by decide +kernel) rfl, ⟨by decide +kernel, by decide +kernel⟩, by decide +kernel, by decide, fun _ => zt_in 1322 (by decide +kernel) rfl, fun h => by contradiction⟩, zt_XM, zt_okM, zt_okT (by decide +kernel)⟩
theorem zt_M_wanted_ok : zt_okk zt_M_wanted := ⟨⟨by decide +kernel, zt_in 1320 (by decide +kernel) rfl, zt_in 147 (by decide +kernel) rfl, ⟨by decide +kernel, by decide +kernel⟩, by decide +kernel, by decide, fun h => by contradiction, fun _ => ⟨zt_in 1319 (by decide +kernel) rfl, zt_in 125 (by decide +kernel) rfl, zt_T7, 47, rfl⟩⟩, zt_XM, zt_okM, zt_okT (by decide +kernel)⟩
theorem zt_M_leftNow_ok : zt_okk zt_M_leftNow := ⟨⟨by decide +kernel, zt_in 1316 (by decide +kernel) rfl, zt_in 147 (by decide +kernel) rfl, ⟨by decide +kernel, by decide +kernel⟩, by decide +kernel, by decide, fun h => by contradiction, fun _ => ⟨zt_in 1315 (by decide +kernel) rfl, zt_in 124 (by decide +kernel) rfl, zt_T7, 47, rfl⟩⟩, zt_XM, zt_okM, zt_okT (by decide +kernel)⟩
theorem zt_M_left_ok : zt_okk zt_M_left := ⟨⟨by decide +kernel, zt_in 1312 (by decide +kernel) rfl, zt_in 147 (by decide +kernel) rfl, ⟨by decide +kernel, by decide +kernel⟩, by decide +kernel, by decide, fun h => by contradiction, fun _ => ⟨zt_in 1310 (by decide +kernel) rfl, zt_in 1311 (by decide +kernel) rfl, zt_T7, 47, rfl⟩⟩, zt_XM, zt_okM, zt_okT (by decide +kernel)⟩
theorem zt_M_layCan_ok : zt_okk zt_M_layCan := ⟨⟨by decide +kernel, zt_in 1335 (by decide +kernel) rfl, zt_in 147 (by decide +kernel) rfl, ⟨by decide +kernel, by decide +kernel⟩, by decide +kernel, by decide, fun h => by contradiction, fun _ => ⟨zt_in 1334 (by decide +kernel) rfl, zt_in 127 (by decide +kernel) rfl, zt_T7, 47, rfl⟩⟩, zt_XM, zt_okM, zt_okT (by decide +kernel)⟩
theorem zt_M_firstMissing_ok : zt_okk zt_M_firstMissing := ⟨⟨by decide +kernel, zt_in 1346 (by decide +kernel) rfl, zt_in 147 (by decide +kernel) rfl, ⟨by decide +kernel, by decide +kernel⟩, by decide +kernel, by decide, fun _ => zt_in 1345 (by decide +kernel) rfl, fun h => by contradiction⟩, zt_XM, zt_okM, zt_okT (by decide +kernel)⟩
theorem zt_M_nextCan_ok : zt_okk zt_M_nextCan := ⟨⟨by decide +kernel, zt_in 1343 (by decide +kernel) rfl, zt_in 147 (by decide +kernel) rfl, ⟨by decide +kernel, by decide +kernel⟩, by decide +kernel, by decide, fun h => by contradiction, fun _ => ⟨zt_in 1342 (by decide +kernel) rfl, zt_in 129 (by decide +kernel) rfl, zt_T7, 47, rfl⟩⟩, zt_XM, zt_okM, zt_okT (by decide +kernel)⟩
theorem zt_M_waysFrom_ok : zt_okk zt_M_waysFrom := ⟨⟨by decide +kernel, zt_in 1339 (by decide +kernel) rfl, zt_in 147 (by decide +kernel) rfl, ⟨by decide +kernel, by decide +kernel⟩, by decide +kernel, by decide, fun h => by contradiction, fun _ => ⟨zt_in 1338 (by decide +kernel) rfl, zt_in 128 (by decide +kernel) rfl, zt_T7, 47, rfl⟩⟩, zt_XM, zt_okM, zt_okT (by decide +kernel)⟩
theorem zt_M_finishNow_ok : zt_okk zt_M_finishNow := ⟨⟨by decide +kernel, zt_in 1331 (by decide +kernel) rfl, zt_in 147 (by decide +kernel) rfl, ⟨by decide +kernel, by decide +kernel⟩, by decide +kernel, by decide, fun h => by contradiction, fun _ => ⟨zt_in 1330 (by decide +kernel) rfl, zt_in 126 (by decide +kernel) rfl, zt_T7, 47, rfl⟩⟩, zt_XM, zt_okM, zt_okT (by decide +kernel)⟩
theorem zt_M_finish_ok : zt_okk zt_M_finish := ⟨⟨by decide +kernel, zt_in 1327 (by decide +kernel) rfl, zt_in 147 (by decide +kernel) rfl, ⟨by decide +kernel, by decide +kernel⟩, by decide +kernel, by decide, fun h => by contradiction, fun _ => ⟨zt_in 1325 (by decide +kernel) rfl, zt_in 1326 (by decide +kernel) rfl, zt_T7, 47, rfl⟩⟩, zt_XM, zt_okM, zt_okT (by decide +kernel)⟩
theorem zt_M_ways_ok : zt_okk zt_M_ways := ⟨⟨by decide +kernel, zt_in 1350 (by decide +kernel) rfl, zt_in 147 (by decide +kernel) rfl, ⟨by decide +kernel, by decide +kernel⟩, by decide +kernel, by decide, fun h => by contradiction, fun _ => ⟨zt_in 1348 (by decide +kernel) rfl, zt_in 1349 (by decide +kernel) rfl, zt_T7, 47, rfl⟩⟩, zt_XM, zt_okM, zt_okT (by decide +kernel)⟩
theorem zt_M_put_ok : zt_okk zt_M_put := ⟨⟨by decide +kernel, zt_in 1355 (by decide +kernel) rfl, zt_in 147 (by decide +kernel) rfl, ⟨by decide +kernel, by decide +kernel⟩, by decide +kernel, by decide, fun h => by contradiction, fun _ => ⟨zt_in 1353 (by decide +kernel) rfl, zt_in 1354 (by decide +kernel) rfl, zt_T7, 47, rfl⟩⟩, zt_XM, zt_okM, zt_okT (by decide +kernel)⟩
theorem zt_M_beginImages_ok : zt_okk zt_M_beginImages := ⟨⟨by decide +kernel, zt_in 1363 (by decide +kernel) rfl, zt_in 147 (by decide +kernel) rfl, ⟨by decide +kernel, by decide +kernel⟩, by decide +kernel, by decide, fun h => by contradiction, fun _ => ⟨zt_in 1362 (by decide +kernel) rfl, zt_in 130 (by decide +kernel) rfl, zt_T7, 47, rfl⟩⟩, zt_XM, zt_okM, zt_okT (by decide +kernel)⟩
theorem zt_M_takeImage_ok : zt_okk zt_M_takeImage := ⟨⟨by decide +kernel, zt_in 1371 (by decide +kernel) rfl, zt_in 147 (by decide +kernel) rfl, ⟨by decide +kernel, by decide +kernel⟩, by decide +kernel, by decide, fun h => by contradiction, fun _ => ⟨zt_in 1370 (by decide +kernel) rfl, zt_in 132 (by decide +kernel) rfl, zt_T7, 47, rfl⟩⟩, zt_XM, zt_okM, zt_okT (by decide +kernel)⟩
theorem zt_M_change_ok : zt_okk zt_M_change := ⟨⟨by decide +kernel, zt_in 1367 (by decide +kernel) rfl, zt_in 147 (by decide +kernel) rfl, ⟨by decide +kernel, by decide +kernel⟩, by decide +kernel, by decide, fun h => by contradiction, fun _ => ⟨zt_in 1366 (by decide +kernel) rfl, zt_in 131 (by decide +kernel) rfl, zt_T7, 47, rfl⟩⟩, zt_XM, zt_okM, zt_okT (by decide +kernel)⟩
theorem zt_M_swap_ok : zt_okk zt_M_swap := ⟨⟨by decide +kernel, zt_in 1359 (by decide +kernel) rfl, zt_in 147 (by decide +kernel) rfl, ⟨by decide +kernel, by decide +kernel⟩, by decide +kernel, by decide, fun h => by contradiction, fun _ => ⟨zt_in 1357 (by decide +kernel) rfl, zt_in 1358 (by decide +kernel) rfl, zt_T7, 47, rfl⟩⟩, zt_XM, zt_okM, zt_okT (by decide +kernel)⟩
theorem zt_M_plus_ok : zt_okk zt_M_plus := ⟨⟨by decide +kernel, zt_in 1375 (by decide +kernel) rfl, zt_in 147 (by decide +kernel) rfl, ⟨by decide +kernel, by decide +kernel⟩, by decide +kernel, by decide, fun h => by contradiction, fun _ => ⟨zt_in 1373 (by decide +kernel) rfl, zt_in 1374 (by decide +kernel) rfl, zt_T7, 47, rfl⟩⟩, zt_XM, zt_okM, zt_okT (by decide +kernel)⟩
theorem zt_M_scale_ok : zt_okk zt_M_scale := ⟨⟨by decide +kernel, zt_in 1379 (by decide +kernel) rfl, zt_in 147 (by decide +kernel) rfl, ⟨by decide +kernel, by decide +kernel⟩, by decide +kernel, by decide, fun h => by contradiction, fun _ => ⟨zt_in 1377 (by decide +kernel) rfl, zt_in 1378 (by decide +kernel) rfl, zt_T7, 47, rfl⟩⟩, zt_XM, zt_okM, zt_okT (by decide +kernel)⟩
theorem zt_M_times_ok : zt_okk zt_M_times := ⟨⟨by decide +kernel, zt_in 1383 (by decide +kernel) rfl, zt_in 147 (by decide +kernel) rfl, ⟨by decide +kernel, by decide +kernel⟩, by decide +kernel, by decide, fun h => by contradiction, fun _ => ⟨zt_in 1381 (by decide +kernel) rfl, zt_in 1382 (by decide +kernel) rfl, zt_T7, 47, rfl⟩⟩, zt_XM, zt_okM, zt_okT (by decide +kernel)⟩
theorem zt_M_image_ok : zt_okk zt_M_image := ⟨⟨by decide +kernel, zt_in 1387 (by decide +kernel) rfl, zt_in 147 (by decide +kernel) rfl, ⟨by decide +kernel, by decide +kernel⟩, by decide +kernel, by decide, fun h => by contradiction, fun _ => ⟨zt_in 1385 (by decide +kernel) rfl, zt_in 1386 (by decide +kernel) rfl, zt_T7, 47, rfl⟩⟩, zt_XM, zt_okM, zt_okT (by decide +kernel)⟩
theorem zt_M_restore_ok : zt_okk zt_M_restore := ⟨⟨by decide +kernel, zt_in 1391 (by decide +kernel) rfl, zt_in 147 (by decide +kernel) rfl, ⟨by decide +kernel, by decide +kernel⟩, by decide +kernel, by decide, fun h => by contradiction, fun _ => ⟨zt_in 1389 (by decide +kernel) rfl, zt_in 1390 (by decide +kernel) rfl, zt_T7, 47, rfl⟩⟩, zt_XM, zt_okM, zt_okT (by decide +kernel)⟩
theorem zt_M_like_ok : zt_okk zt_M_like := ⟨⟨by decide +kernel, zt_in 1395 (by decide +kernel) rfl, zt_in 147 (by decide +kernel) rfl, ⟨by decide +kernel, by decide +kernel⟩, by decide +kernel, by decide, fun h => by contradiction, fun _ => ⟨zt_in 1393 (by decide +kernel) rfl, zt_in 1394 (by decide +kernel) rfl, zt_T7, 47, rfl⟩⟩, zt_XM, zt_okM, zt_okT (by decide +kernel)⟩
theorem zt_M_drawOf_ok : zt_okk zt_M_drawOf := ⟨⟨by decide +kernel, zt_in 1407 (by decide +kernel) rfl, zt_in 147 (by decide +kernel) rfl, ⟨by decide +kernel, by decide +kernel⟩, by decide +kernel, by decide, fun h => by contradiction, fun _ => ⟨zt_in 1406 (by decide +kernel) rfl, zt_in 134 (by decide +kernel) rfl, zt_T7, 47, rfl⟩⟩, zt_XM, zt_okM, zt_okT (by decide +kernel)⟩
theorem zt_M_drawnNow_ok : zt_okk zt_M_drawnNow := ⟨⟨by decide +kernel, zt_in 1403 (by decide +kernel) rfl, zt_in 147 (by decide +kernel) rfl, ⟨by decide +kernel, by decide +kernel⟩, by decide +kernel, by decide, fun h => by contradiction, fun _ => ⟨zt_in 1402 (by decide +kernel) rfl, zt_in 133 (by decide +kernel) rfl, zt_T7, 47, rfl⟩⟩, zt_XM, zt_okM, zt_okT (by decide +kernel)⟩
theorem zt_M_drawn_ok : zt_okk zt_M_drawn := ⟨⟨by decide +kernel, zt_in 1399 (by decide +kernel) rfl, zt_in 147 (by decide +kernel) rfl, ⟨by decide +kernel, by decide +kernel⟩, by decide +kernel, by decide, fun h => by contradiction, fun _ => ⟨zt_in 1397 (by decide +kernel) rfl, zt_in 1398 (by decide +kernel) rfl, zt_T7, 47, rfl⟩⟩, zt_XM, zt_okM, zt_okT (by decide +kernel)⟩
theorem zt_M_howMany_ok : zt_okk zt_M_howMany := ⟨⟨by decide +kernel, zt_in 1419 (by decide +kernel) rfl, zt_in 147 (by decide +kernel) rfl, ⟨by decide +kernel, by decide +kernel⟩, by decide +kernel, by decide, fun h => by contradiction, fun _ => ⟨zt_in 1418 (by decide +kernel) rfl, zt_in 135 (by decide +kernel) rfl, zt_T7, 47, rfl⟩⟩, zt_XM, zt_okM, zt_okT (by decide +kernel)⟩
theorem zt_M_count_ok : zt_okk zt_M_count := ⟨⟨by decide +kernel, zt_in 1415 (by decide +kernel) rfl, zt_in 147 (by decide +kernel) rfl, ⟨by decide +kernel, by decide +kernel⟩, by decide +kernel, by decide, fun h => by contradiction, fun _ => ⟨zt_in 1413 (by decide +kernel) rfl, zt_in 1414 (by decide +kernel) rfl, zt_T7, 47, rfl⟩⟩, zt_XM, zt_okM, zt_okT (by decide +kernel)⟩
theorem zt_M_mixIn_ok : zt_okk zt_M_mixIn := ⟨⟨by decide +kernel, zt_in 1432 (by decide +kernel) rfl, zt_in 147 (by decide +kernel) rfl, ⟨by decide +kernel, by decide +kernel⟩, by decide +kernel, by decide, fun h => by contradiction, fun _ => ⟨zt_in 1431 (by decide +kernel) rfl, zt_in 137 (by decide +kernel) rfl, zt_T7, 47, rfl⟩⟩, zt_XM, zt_okM, zt_okT (by decide +kernel)⟩
theorem zt_M_mixFlats_ok : zt_okk zt_M_mixFlats := ⟨⟨by decide +kernel, zt_in 1437 (by decide +kernel) rfl, zt_in 147 (by decide +kernel) rfl, ⟨by decide +kernel, by decide +kernel⟩, by decide +kernel, by decide, fun h => by contradiction, fun _ => ⟨zt_in 1436 (by decide +kernel) rfl, zt_in 138 (by decide +kernel) rfl, zt_T7, 47, rfl⟩⟩, zt_XM, zt_okM, zt_okT (by decide +kernel)⟩
theorem zt_M_mixForm_ok : zt_okk zt_M_mixForm := ⟨⟨by decide +kernel, zt_in 1428 (by decide +kernel) rfl, zt_in 147 (by decide +kernel) rfl, ⟨by decide +kernel, by decide +kernel⟩, by decide +kernel, by decide, fun h => by contradiction, fun _ => ⟨zt_in 1427 (by decide +kernel) rfl, zt_in 136 (by decide +kernel) rfl, zt_T7, 47, rfl⟩⟩, zt_XM, zt_okM, zt_okT (by decide +kernel)⟩
theorem zt_M_digest_ok : zt_okk zt_M_digest := ⟨⟨by decide +kernel, zt_in 1423 (by decide +kernel) rfl, zt_in 147 (by decide +kernel) rfl, ⟨by decide +kernel, by decide +kernel⟩, by decide +kernel, by decide, fun h => by contradiction, fun _ => ⟨zt_in 1421 (by decide +kernel) rfl, zt_in 1422 (by decide +kernel) rfl, zt_T7, 47, rfl⟩⟩, zt_XM, zt_okM, zt_okT (by decide +kernel)⟩
end
section
/-! methods, on (printed) -/
theorem zt_L_bitCount_ok : zt_okk zt_L_bitCount := ⟨⟨by decide +kernel, zt_in 640 (by decide +kernel) rfl, zt_in 149 (by decide +kernel) rfl, ⟨by decide +kernel, by decide +kernel⟩, by decide +kernel, by decide, fun _ => zt_in 639 (by decide +kernel) rfl, fun h => by contradiction⟩, zt_XL, zt_okL, zt_okT (by decide +kernel)⟩
end
section
/-! all methods (printed) -/
theorem zt_allok0 : ∀ M ∈ zt_all0, zt_okk M := List.forall_mem_cons.mpr ⟨zt_F_build_ok, List.forall_mem_cons.mpr ⟨zt_F_findLinks_ok, List.forall_mem_cons.mpr ⟨zt_F_addLines_ok, List.forall_mem_cons.mpr ⟨zt_F_addPlanes_ok, List.forall_mem_cons.mpr ⟨zt_F_spanned_ok, List.forall_mem_cons.mpr ⟨zt_F_linkedWithAll_ok, List.forall_mem_cons.mpr ⟨zt_F_lowestTwo_ok, List.forall_mem_cons.mpr ⟨zt_F_totalOf_ok, List.forall_mem_cons.mpr ⟨zt_F_maskOf_ok, List.forall_mem_cons.mpr ⟨zt_O_hasVariable_ok, List.forall_mem_cons.mpr ⟨zt_O_cell_ok, List.forall_mem_cons.mpr ⟨zt_O_store_ok, List.forall_mem_cons.mpr ⟨zt_O_copyFrom_ok, List.forall_mem_cons.mpr ⟨zt_O_exchange_ok, List.forall_mem_cons.mpr ⟨zt_O_shear_ok, List.forall_mem_cons.mpr ⟨zt_O_stretch_ok, List.forall_mem_cons.mpr ⟨zt_O_multiply_ok, List.forall_mem_cons.mpr ⟨zt_O_discriminant_ok, List.forall_mem_cons.mpr ⟨zt_O_determinant_ok, List.forall_mem_cons.mpr ⟨zt_O_pivotRow_ok, List.forall_mem_cons.mpr ⟨zt_O_exchangeRows_ok, List.forall_mem_cons.mpr ⟨zt_O_clearBelow_ok, List.forall_mem_cons.mpr ⟨zt_P_append_ok, List.forall_mem_cons.mpr ⟨zt_P_firstWrong_ok, fun _ h => absurd h List.not_mem_nil⟩⟩⟩⟩⟩⟩⟩⟩⟩⟩⟩⟩⟩⟩⟩⟩⟩⟩⟩⟩⟩⟩⟩⟩
theorem zt_allok1 : ∀ M ∈ zt_all1, zt_okk M := List.forall_mem_cons.mpr ⟨zt_P_isText_ok, List.forall_mem_cons.mpr ⟨zt_P_accepts_ok, List.forall_mem_cons.mpr ⟨zt_P_mostVariables_ok, List.forall_mem_cons.mpr ⟨zt_P_endsRow_ok, List.forall_mem_cons.mpr ⟨zt_P_addsDigit_ok, List.forall_mem_cons.mpr ⟨zt_P_copyTo_ok, List.forall_mem_cons.mpr ⟨zt_Q_layPoints_ok, List.forall_mem_cons.mpr ⟨zt_Q_layPoint_ok, List.forall_mem_cons.mpr ⟨zt_Q_vectorPoint_ok, List.forall_mem_cons.mpr ⟨zt_Q_survey_ok, List.forall_mem_cons.mpr ⟨zt_Q_measure_ok, List.forall_mem_cons.mpr ⟨zt_Q_isSingular_ok, List.forall_mem_cons.mpr ⟨zt_Q_isOn_ok, List.forall_mem_cons.mpr ⟨zt_Q_product_ok, List.forall_mem_cons.mpr ⟨zt_Q_areCollinear_ok, List.forall_mem_cons.mpr ⟨zt_Q_sectionSize_ok, List.forall_mem_cons.mpr ⟨zt_Q_tangentPoint_ok, List.forall_mem_cons.mpr ⟨zt_Q_kind_ok, List.forall_mem_cons.mpr ⟨zt_Q_index_ok, List.forall_mem_cons.mpr ⟨zt_Q_isHyperbolic_ok, List.forall_mem_cons.mpr ⟨zt_H_run_ok, List.forall_mem_cons.mpr ⟨zt_H_walk_ok, List.forall_mem_cons.mpr ⟨zt_H_note_ok, List.forall_mem_cons.mpr ⟨zt_H_fewestChoices_ok, fun _ h => absurd h List.not_mem_nil⟩⟩⟩⟩⟩⟩⟩⟩⟩⟩⟩⟩⟩⟩⟩⟩⟩⟩⟩⟩⟩⟩⟩⟩
theorem zt_allok2 : ∀ M ∈ zt_all2, zt_okk M := List.forall_mem_cons.mpr ⟨zt_D_findClashes_ok, List.forall_mem_cons.mpr ⟨zt_D_refuses_ok, List.forall_mem_cons.mpr ⟨zt_D_append_ok, List.forall_mem_cons.mpr ⟨zt_D_appendAll_ok, List.forall_mem_cons.mpr ⟨zt_D_taken_ok, List.forall_mem_cons.mpr ⟨zt_D_covered_ok, List.forall_mem_cons.mpr ⟨zt_D_clashing_ok, List.forall_mem_cons.mpr ⟨zt_D_everything_ok, List.forall_mem_cons.mpr ⟨zt_X_letter_ok, List.forall_mem_cons.mpr ⟨zt_X_blank_ok, List.forall_mem_cons.mpr ⟨zt_X_fault_ok, List.forall_mem_cons.mpr ⟨zt_X_form_ok, List.forall_mem_cons.mpr ⟨zt_X_about_ok, List.forall_mem_cons.mpr ⟨zt_X_coefficient_ok, List.forall_mem_cons.mpr ⟨zt_X_point_ok, List.forall_mem_cons.mpr ⟨zt_X_value_ok, List.forall_mem_cons.mpr ⟨zt_X_polar_ok, List.forall_mem_cons.mpr ⟨zt_X_joined_ok, List.forall_mem_cons.mpr ⟨zt_X_section_ok, List.forall_mem_cons.mpr ⟨zt_X_flats_ok, List.forall_mem_cons.mpr ⟨zt_X_flat_ok, List.forall_mem_cons.mpr ⟨zt_X_near_ok, List.forall_mem_cons.mpr ⟨zt_X_pick_ok, List.forall_mem_cons.mpr ⟨zt_X_gather_ok, fun _ h => absurd h List.not_mem_nil⟩⟩⟩⟩⟩⟩⟩⟩⟩⟩⟩⟩⟩⟩⟩⟩⟩⟩⟩⟩⟩⟩⟩⟩
theorem zt_allok3 : ∀ M ∈ zt_all3, zt_okk M := List.forall_mem_cons.mpr ⟨zt_X_drop_ok, List.forall_mem_cons.mpr ⟨zt_X_chosen_ok, List.forall_mem_cons.mpr ⟨zt_X_left_ok, List.forall_mem_cons.mpr ⟨zt_X_finish_ok, List.forall_mem_cons.mpr ⟨zt_X_ways_ok, List.forall_mem_cons.mpr ⟨zt_X_put_ok, List.forall_mem_cons.mpr ⟨zt_X_swap_ok, List.forall_mem_cons.mpr ⟨zt_X_plus_ok, List.forall_mem_cons.mpr ⟨zt_X_scale_ok, List.forall_mem_cons.mpr ⟨zt_X_times_ok, List.forall_mem_cons.mpr ⟨zt_X_image_ok, List.forall_mem_cons.mpr ⟨zt_X_restore_ok, List.forall_mem_cons.mpr ⟨zt_X_like_ok, List.forall_mem_cons.mpr ⟨zt_X_drawn_ok, List.forall_mem_cons.mpr ⟨zt_X_count_ok, List.forall_mem_cons.mpr ⟨zt_X_digest_ok, List.forall_mem_cons.mpr ⟨zt_X_digestForm_ok, List.forall_mem_cons.mpr ⟨zt_X_digestFlats_ok, List.forall_mem_cons.mpr ⟨zt_X_hasForm_ok, List.forall_mem_cons.mpr ⟨zt_X_hasFlats_ok, List.forall_mem_cons.mpr ⟨zt_X_fillSides_ok, List.forall_mem_cons.mpr ⟨zt_X_forget_ok, List.forall_mem_cons.mpr ⟨zt_X_hasPoint_ok, List.forall_mem_cons.mpr ⟨zt_X_isMember_ok, fun _ h => absurd h List.not_mem_nil⟩⟩⟩⟩⟩⟩⟩⟩⟩⟩⟩⟩⟩⟩⟩⟩⟩⟩⟩⟩⟩⟩⟩⟩
theorem zt_allok4 : ∀ M ∈ zt_all4, zt_okk M := List.forall_mem_cons.mpr ⟨zt_X_isGreatest_ok, List.forall_mem_cons.mpr ⟨zt_X_pointTotal_ok, List.forall_mem_cons.mpr ⟨zt_X_memberTotal_ok, List.forall_mem_cons.mpr ⟨zt_X_sideOf_ok, List.forall_mem_cons.mpr ⟨zt_X_searchOf_ok, List.forall_mem_cons.mpr ⟨zt_X_entryOf_ok, List.forall_mem_cons.mpr ⟨zt_X_missing_ok, List.forall_mem_cons.mpr ⟨zt_X_nextSeed_ok, List.forall_mem_cons.mpr ⟨zt_X_mod_ok, List.forall_mem_cons.mpr ⟨zt_X_inverse_ok, List.forall_mem_cons.mpr ⟨zt_X_lowestBit_ok, List.forall_mem_cons.mpr ⟨zt_M_within_ok, List.forall_mem_cons.mpr ⟨zt_M_mod_ok, List.forall_mem_cons.mpr ⟨zt_M_letter_ok, List.forall_mem_cons.mpr ⟨zt_M_blank_ok, List.forall_mem_cons.mpr ⟨zt_M_mostOf_ok, List.forall_mem_cons.mpr ⟨zt_M_takesDigit_ok, List.forall_mem_cons.mpr ⟨zt_M_takesSlash_ok, List.forall_mem_cons.mpr ⟨zt_M_takes_ok, List.forall_mem_cons.mpr ⟨zt_M_read_ok, List.forall_mem_cons.mpr ⟨zt_M_fault_ok, List.forall_mem_cons.mpr ⟨zt_M_form_ok, List.forall_mem_cons.mpr ⟨zt_M_firstOf_ok, List.forall_mem_cons.mpr ⟨zt_M_layRow_ok, fun _ h => absurd h List.not_mem_nil⟩⟩⟩⟩⟩⟩⟩⟩⟩⟩⟩⟩⟩⟩⟩⟩⟩⟩⟩⟩⟩⟩⟩⟩
theorem zt_allok5 : ∀ M ∈ zt_all5, zt_okk M := List.forall_mem_cons.mpr ⟨zt_M_layPoints_ok, List.forall_mem_cons.mpr ⟨zt_M_pointOf_ok, List.forall_mem_cons.mpr ⟨zt_M_valueOf_ok, List.forall_mem_cons.mpr ⟨zt_M_polarOf_ok, List.forall_mem_cons.mpr ⟨zt_M_take_ok, List.forall_mem_cons.mpr ⟨zt_M_valueAt_ok, List.forall_mem_cons.mpr ⟨zt_M_polarAt_ok, List.forall_mem_cons.mpr ⟨zt_M_mix_ok, List.forall_mem_cons.mpr ⟨zt_M_isJoined_ok, List.forall_mem_cons.mpr ⟨zt_M_isSingular_ok, List.forall_mem_cons.mpr ⟨zt_M_addTo_ok, List.forall_mem_cons.mpr ⟨zt_M_isIn_ok, List.forall_mem_cons.mpr ⟨zt_M_layLine_ok, List.forall_mem_cons.mpr ⟨zt_M_widen_ok, List.forall_mem_cons.mpr ⟨zt_M_areOn_ok, List.forall_mem_cons.mpr ⟨zt_M_layLines_ok, List.forall_mem_cons.mpr ⟨zt_M_layPlane_ok, List.forall_mem_cons.mpr ⟨zt_M_isOfLine_ok, List.forall_mem_cons.mpr ⟨zt_M_layPlanes_ok, List.forall_mem_cons.mpr ⟨zt_M_layForm_ok, List.forall_mem_cons.mpr ⟨zt_M_layNew_ok, List.forall_mem_cons.mpr ⟨zt_M_isForm_ok, List.forall_mem_cons.mpr ⟨zt_M_isSound_ok, List.forall_mem_cons.mpr ⟨zt_M_index_ok, fun _ h => absurd h List.not_mem_nil⟩⟩⟩⟩⟩⟩⟩⟩⟩⟩⟩⟩⟩⟩⟩⟩⟩⟩⟩⟩⟩⟩⟩⟩
theorem zt_allok6 : ∀ M ∈ zt_all6, zt_okk M := List.forall_mem_cons.mpr ⟨zt_M_onAt_ok, List.forall_mem_cons.mpr ⟨zt_M_flatsOf_ok, List.forall_mem_cons.mpr ⟨zt_M_sizeOf_ok, List.forall_mem_cons.mpr ⟨zt_M_pointIn_ok, List.forall_mem_cons.mpr ⟨zt_M_greatestMany_ok, List.forall_mem_cons.mpr ⟨zt_M_has_ok, List.forall_mem_cons.mpr ⟨zt_M_kind_ok, List.forall_mem_cons.mpr ⟨zt_M_layMatrix_ok, List.forall_mem_cons.mpr ⟨zt_M_determinant_ok, List.forall_mem_cons.mpr ⟨zt_M_swapLines_ok, List.forall_mem_cons.mpr ⟨zt_M_clearBelow_ok, List.forall_mem_cons.mpr ⟨zt_M_disc_ok, List.forall_mem_cons.mpr ⟨zt_M_aboutNow_ok, List.forall_mem_cons.mpr ⟨zt_M_about_ok, List.forall_mem_cons.mpr ⟨zt_M_isVariable_ok, List.forall_mem_cons.mpr ⟨zt_M_placeOf_ok, List.forall_mem_cons.mpr ⟨zt_M_coefficient_ok, List.forall_mem_cons.mpr ⟨zt_M_isPoint_ok, List.forall_mem_cons.mpr ⟨zt_M_point_ok, List.forall_mem_cons.mpr ⟨zt_M_value_ok, List.forall_mem_cons.mpr ⟨zt_M_polar_ok, List.forall_mem_cons.mpr ⟨zt_M_joined_ok, List.forall_mem_cons.mpr ⟨zt_M_isInSection_ok, List.forall_mem_cons.mpr ⟨zt_M_sectionOn_ok, fun _ h => absurd h List.not_mem_nil⟩⟩⟩⟩⟩⟩⟩⟩⟩⟩⟩⟩⟩⟩⟩⟩⟩⟩⟩⟩⟩⟩⟩⟩
theorem zt_allok7 : ∀ M ∈ zt_all7, zt_okk M := List.forall_mem_cons.mpr ⟨zt_M_isTouched_ok, List.forall_mem_cons.mpr ⟨zt_M_touches_ok, List.forall_mem_cons.mpr ⟨zt_M_section_ok, List.forall_mem_cons.mpr ⟨zt_M_flats_ok, List.forall_mem_cons.mpr ⟨zt_M_flat_ok, List.forall_mem_cons.mpr ⟨zt_M_isGreatest_ok, List.forall_mem_cons.mpr ⟨zt_M_isOnPoint_ok, List.forall_mem_cons.mpr ⟨zt_M_nearNow_ok, List.forall_mem_cons.mpr ⟨zt_M_near_ok, List.forall_mem_cons.mpr ⟨zt_M_reach_ok, List.forall_mem_cons.mpr ⟨zt_M_reached_ok, List.forall_mem_cons.mpr ⟨zt_M_choose_ok, List.forall_mem_cons.mpr ⟨zt_M_pick_ok, List.forall_mem_cons.mpr ⟨zt_M_gather_ok, List.forall_mem_cons.mpr ⟨zt_M_isOf_ok, List.forall_mem_cons.mpr ⟨zt_M_drop_ok, List.forall_mem_cons.mpr ⟨zt_M_chosen_ok, List.forall_mem_cons.mpr ⟨zt_M_size_ok, List.forall_mem_cons.mpr ⟨zt_M_wanted_ok, List.forall_mem_cons.mpr ⟨zt_M_leftNow_ok, List.forall_mem_cons.mpr ⟨zt_M_left_ok, List.forall_mem_cons.mpr ⟨zt_M_layCan_ok, List.forall_mem_cons.mpr ⟨zt_M_firstMissing_ok, List.forall_mem_cons.mpr ⟨zt_M_nextCan_ok, fun _ h => absurd h List.not_mem_nil⟩⟩⟩⟩⟩⟩⟩⟩⟩⟩⟩⟩⟩⟩⟩⟩⟩⟩⟩⟩⟩⟩⟩⟩
theorem zt_allok8 : ∀ M ∈ zt_all8, zt_okk M := List.forall_mem_cons.mpr ⟨zt_M_waysFrom_ok, List.forall_mem_cons.mpr ⟨zt_M_finishNow_ok, List.forall_mem_cons.mpr ⟨zt_M_finish_ok, List.forall_mem_cons.mpr ⟨zt_M_ways_ok, List.forall_mem_cons.mpr ⟨zt_M_put_ok, List.forall_mem_cons.mpr ⟨zt_M_beginImages_ok, List.forall_mem_cons.mpr ⟨zt_M_takeImage_ok, List.forall_mem_cons.mpr ⟨zt_M_change_ok, List.forall_mem_cons.mpr ⟨zt_M_swap_ok, List.forall_mem_cons.mpr ⟨zt_M_plus_ok, List.forall_mem_cons.mpr ⟨zt_M_scale_ok, List.forall_mem_cons.mpr ⟨zt_M_times_ok, List.forall_mem_cons.mpr ⟨zt_M_image_ok, List.forall_mem_cons.mpr ⟨zt_M_restore_ok, List.forall_mem_cons.mpr ⟨zt_M_like_ok, List.forall_mem_cons.mpr ⟨zt_M_drawOf_ok, List.forall_mem_cons.mpr ⟨zt_M_drawnNow_ok, List.forall_mem_cons.mpr ⟨zt_M_drawn_ok, List.forall_mem_cons.mpr ⟨zt_M_howMany_ok, List.forall_mem_cons.mpr ⟨zt_M_count_ok, List.forall_mem_cons.mpr ⟨zt_M_mixIn_ok, List.forall_mem_cons.mpr ⟨zt_M_mixFlats_ok, List.forall_mem_cons.mpr ⟨zt_M_mixForm_ok, List.forall_mem_cons.mpr ⟨zt_M_digest_ok, fun _ h => absurd h List.not_mem_nil⟩⟩⟩⟩⟩⟩⟩⟩⟩⟩⟩⟩⟩⟩⟩⟩⟩⟩⟩⟩⟩⟩⟩⟩
theorem zt_allok9 : ∀ M ∈ zt_all9, zt_okk M := List.forall_mem_cons.mpr ⟨zt_L_bitCount_ok, fun _ h => absurd h List.not_mem_nil⟩
theorem zt_allok : ∀ M ∈ zt_all, zt_okk M := by
  intro M h
  unfold zt_all at h
  simp only [List.mem_append] at h
  rcases h with h | h | h | h | h | h | h | h | h | h
  · exact zt_allok0 M h
  · exact zt_allok1 M h
  · exact zt_allok2 M h
  · exact zt_allok3 M h
  · exact zt_allok4 M h
  · exact zt_allok5 M h
  · exact zt_allok6 M h
  · exact zt_allok7 M h
  · exact zt_allok8 M h
  · exact zt_allok9 M h
theorem zt_getok {k : Nat} {M : zm_M} (h : zt_get k = some M) : zt_okk M := by
  unfold zt_get at h
  rw [zm_n_eq] at h
  exact zt_allok M (List.mem_of_getElem? h)
/-- EVERY RUN OF OUR MACHINE OVER THIS PROGRAM IS A CONTRACT OF THE JVM'S METHOD -/
theorem zt_met (l : Launch) (D : va_G) (tc : Nat → ClassId) (ad : Nat → Nat) (d : Nat) : zm_IH l zt_get zt_gw zt_nw D zt_cl tc ad d (zm_ev zt_get d) :=
  zm_met zt_good zt_nest (fun _ _ h => (zt_getok h).1) (fun _ _ h => (zt_getok h).2) d
end
section
/-! numbers, branches and loops of runs; the reference's world -/
theorem zn_add {x y : Int32} {a b : Nat} (hx : x = nI a) (hy : y = nI b) : x + y = nI (a + b) := by rw [hx, hy, nI_add]
theorem zn_mul {x y : Int32} {a b : Nat} (hx : x = nI a) (hy : y = nI b) : x * y = nI (a * b) := by rw [hx, hy, pk_mul]
theorem zn_sub {x y : Int32} {a b : Nat} (hx : x = nI a) (hy : y = nI b) (h : b ≤ a) : x - y = nI (a - b) := by rw [hx, hy, pk_sub h]
theorem zn_dec {x : Int32} {a : Nat} (hx : x = nI a) (h : 1 ≤ a) : x + (-1) = nI (a - 1) := by
  obtain ⟨b, rfl⟩ : ∃ b, a = b + 1 := ⟨a - 1, by omega⟩
  rw [hx, pk_m1]; rfl
theorem zn_div {x y : Int32} {a b : Nat} (hx : x = nI a) (hy : y = nI b) (ha : a < 2 ^ 31) (h0 : 0 < b) (hb : b < 2 ^ 31) : x / y = nI (a / b) := by rw [hx, hy, pk_div ha h0 hb]
theorem zn_rem {x y : Int32} {a b : Nat} (hx : x = nI a) (hy : y = nI b) (ha : a < 2 ^ 31) (h0 : 0 < b) (hb : b < 2 ^ 31) : x - x / y * y = nI (a % b) := by rw [hx, hy, pk_rem ha h0 hb]
theorem zn_ne0 {y : Int32} {b : Nat} (hy : y = nI b) (h0 : 0 < b) (hb : b < 2 ^ 31) : ¬ y = 0 := by rw [hy]; exact nI_ne0 h0 hb
section ZP
variable {get : Nat → Option zm_M} {d : Nat} {M : zm_M} {Q : Option Value → List zm_E → Prop} {s t f : zm_S} {x y : Int32}
theorem zr_ieq (a b : Nat) (hx : x = nI a) (hy : y = nI b) (ha : a < 2 ^ 31) (hb : b < 2 ^ 31) (h : zm_nx M s = some (.inr (.inl (x = y, t, f)))) (k1 : a = b → zm_Run get d M t Q) (k2 : a ≠ b → zm_Run get d M f Q) : zm_Run get d M s Q :=
  zr_if h (fun q => k1 ((nI_eq ha hb).mp (by rw [← hx, ← hy]; exact q))) (fun q => k2 (fun e => q (by rw [hx, hy, e])))
theorem zr_ine (a b : Nat) (hx : x = nI a) (hy : y = nI b) (ha : a < 2 ^ 31) (hb : b < 2 ^ 31) (h : zm_nx M s = some (.inr (.inl (x = y, f, t)))) (k1 : a ≠ b → zm_Run get d M t Q) (k2 : a = b → zm_Run get d M f Q) : zm_Run get d M s Q :=
  zr_if h (fun q => k2 ((nI_eq ha hb).mp (by rw [← hx, ← hy]; exact q))) (fun q => k1 (fun e => q (by rw [hx, hy, e])))
theorem zr_ilt (a b : Nat) (hx : x = nI a) (hy : y = nI b) (ha : a < 2 ^ 31) (hb : b < 2 ^ 31) (h : zm_nx M s = some (.inr (.inl (x < y, t, f)))) (k1 : a < b → zm_Run get d M t Q) (k2 : b ≤ a → zm_Run get d M f Q) : zm_Run get d M s Q :=
  zr_if h (fun q => k1 ((nI_ltI ha hb).mp (by rw [← hx, ← hy]; exact q))) (fun q => k2 (Nat.not_lt.mp fun e => q (by rw [hx, hy]; exact (nI_ltI ha hb).mpr e)))
theorem zr_ige (a b : Nat) (hx : x = nI a) (hy : y = nI b) (ha : a < 2 ^ 31) (hb : b < 2 ^ 31) (h : zm_nx M s = some (.inr (.inl (y ≤ x, t, f)))) (k1 : b ≤ a → zm_Run get d M t Q) (k2 : a < b → zm_Run get d M f Q) : zm_Run get d M s Q :=
  zr_if h (fun q => k1 ((nI_leI hb ha).mp (by rw [← hx, ← hy]; exact q))) (fun q => k2 (Nat.not_le.mp fun e => q (by rw [hx, hy]; exact (nI_leI hb ha).mpr e)))
theorem zr_igt (a b : Nat) (hx : x = nI a) (hy : y = nI b) (ha : a < 2 ^ 31) (hb : b < 2 ^ 31) (h : zm_nx M s = some (.inr (.inl (y < x, t, f)))) (k1 : b < a → zm_Run get d M t Q) (k2 : a ≤ b → zm_Run get d M f Q) : zm_Run get d M s Q :=
  zr_if h (fun q => k1 ((nI_ltI hb ha).mp (by rw [← hx, ← hy]; exact q))) (fun q => k2 (Nat.not_lt.mp fun e => q (by rw [hx, hy]; exact (nI_ltI hb ha).mpr e)))
theorem zr_ile (a b : Nat) (hx : x = nI a) (hy : y = nI b) (ha : a < 2 ^ 31) (hb : b < 2 ^ 31) (h : zm_nx M s = some (.inr (.inl (x ≤ y, t, f)))) (k1 : a ≤ b → zm_Run get d M t Q) (k2 : b < a → zm_Run get d M f Q) : zm_Run get d M s Q :=
  zr_if h (fun q => k1 ((nI_leI ha hb).mp (by rw [← hx, ← hy]; exact q))) (fun q => k2 (Nat.not_le.mp fun e => q (by rw [hx, hy]; exact (nI_leI ha hb).mpr e)))
/-- a loop: at each state of it that keeps I, one round comes to one with a lesser measure, or out -/
theorem zr_loop {α : Type} (St : α → zm_S) (I : α → Prop) (μ : α → Nat) (hs : ∀ x, I x → (∀ y, I y → μ y < μ x → zm_Run get d M (St y) Q) → zm_Run get d M (St x) Q) (x : α) (hx : I x) : zm_Run get d M (St x) Q := by
  have key : ∀ n x, μ x < n → I x → zm_Run get d M (St x) Q := by
    intro n
    induction n with
    | zero => intro x h; omega
    | succ n ih => intro x h hx; exact hs x hx (fun y hy hl => ih y (by omega) hy)
  exact key (μ x + 1) x (Nat.lt_succ_self _) hx
end ZP
def zS (f : Nat → Nat) : Nat → Nat
  | 0 => 0
  | n + 1 => zS f n + f n
theorem zS_le {f : Nat → Nat} {B : Nat} (n : Nat) (h : ∀ k, k < n → f k ≤ B) : zS f n ≤ n * B := by
  induction n with
  | zero => exact Nat.zero_le _
  | succ n ih =>
    have h1 := ih (fun k hk => h k (by omega))
    have h2 := h n (by omega)
    rw [Nat.succ_mul]
    show zS f n + f n ≤ _
    omega
theorem zS_congr {f g : Nat → Nat} (n : Nat) (h : ∀ k, k < n → f k = g k) : zS f n = zS g n := by
  induction n with
  | zero => rfl
  | succ n ih => show zS f n + f n = zS g n + g n; rw [ih (fun k hk => h k (by omega)), h n (by omega)]
/-- the reference: its object, its arrays -/
def zw_M (g : Nat → Int32) (gl : Nat → Int64) (a : Nat → Nat → Int32) (al : Nat → Nat → Int64) : List zm_E :=
  [.inr (7, [.int (g 0), .int (g 1), .ref 1, .int (g 3), .int (g 4), .ref 2, .int (g 6), .ref 3, .ref 4, .ref 5, .int (g 10), .int (g 11), .int (g 12), .ref 6, .int (g 14), .ref 7, .int (g 16), .int (g 17), .int (g 18), .int (g 19), .ref 8, .ref 9, .ref 10, .ref 11, .ref 12, .int (g 25), .ref 13, .ref 14, .ref 15, .ref 16, .ref 17, .int (g 31), .ref 18, .ref 19, .ref 20, .ref 21, .int (g 36), .int (g 37), .ref 22, .ref 23, .int (g 40), .int (g 41), .int (g 42), .int (g 43), .ref 24, .long (gl 45), .long (gl 46)]),
  .inl (0, 36, .inl (a 1)),
  .inl (0, 28, .inl (a 2)),
  .inl (0, 936, .inl (a 3)),
  .inl (0, 729, .inl (a 4)),
  .inl (2, 156, .inl (a 5)),
  .inl (0, 768, .inl (a 6)),
  .inl (0, 280, .inl (a 7)),
  .inl (0, 36, .inl (a 8)),
  .inl (0, 6, .inl (a 9)),
  .inl (0, 6, .inl (a 10)),
  .inl (0, 6, .inl (a 11)),
  .inl (0, 6, .inl (a 12)),
  .inl (0, 31, .inl (a 13)),
  .inl (0, 6, .inl (a 14)),
  .inl (0, 36, .inl (a 15)),
  .inl (0, 2, .inl (a 16)),
  .inl (0, 128, .inl (a 17)),
  .inl (1, 64, .inr (.inl (al 18))),
  .inl (0, 64, .inl (a 19)),
  .inl (0, 64, .inl (a 20)),
  .inl (1, 64, .inr (.inl (al 21))),
  .inl (0, 36, .inl (a 22)),
  .inl (0, 36, .inl (a 23)),
  .inl (0, 36, .inl (a 24))]
end
section
/-! the reference's arithmetic (written by wip/whole/gen_m1.py) -/
def zv_mod (x y : Int32) : Int32 := (x - x / y * y + y) - (x - x / y * y + y) / y * y
theorem zs_M_mod (g : Nat → Int32) (gl : Nat → Int64) (a : Nat → Nat → Int32) (al : Nat → Nat → Int64) (x y : Int32) (hy : ¬ y = 0) : zm_Ev zt_get 1 108 [.int x, .int y] (zw_M g gl a al) (fun v w => v = some (.int (zv_mod x y)) ∧ w = (zw_M g gl a al)) := by
  refine zr_ev zt_M_mod rfl rfl ?_
  show zm_Run zt_get 0 zt_M_mod (0, [some (.int x), some (.int y)], [], (zw_M g gl a al)) _
  refine zr_go (t := (2, [some (.int x), some (.int y)], [.int y, .int x], (zw_M g gl a al))) 2 rfl ?_
  refine zr_cd (t := (3, [some (.int x), some (.int y)], [.int (x - x / y * y)], (zw_M g gl a al))) rfl hy ?_
  refine zr_go (t := (6, [some (.int x), some (.int y)], [.int y, .int ((x - x / y * y) + y)], (zw_M g gl a al))) 3 rfl ?_
  refine zr_cd (t := (7, [some (.int x), some (.int y)], [.int (((x - x / y * y) + y) - ((x - x / y * y) + y) / y * y)], (zw_M g gl a al))) rfl hy ?_
  exact zr_ret rfl trivial ⟨rfl, rfl⟩
theorem zs_M_within (g : Nat → Int32) (gl : Nat → Int64) (a : Nat → Nat → Int32) (al : Nat → Nat → Int64) (x y z : Int32) : zm_Ev zt_get 1 107 [.int x, .int y, .int z] (zw_M g gl a al) (fun v w => ((y ≤ x ∧ x ≤ z) ∧ v = some (.int 1) ∨ ¬ (y ≤ x ∧ x ≤ z) ∧ v = some (.int 0)) ∧ w = (zw_M g gl a al)) := by
  refine zr_ev zt_M_within rfl rfl ?_
  show zm_Run zt_get 0 zt_M_within (0, [some (.int x), some (.int y), some (.int z)], [], (zw_M g gl a al)) _
  refine zr_go (t := (2, [some (.int x), some (.int y), some (.int z)], [.int y, .int x], (zw_M g gl a al))) 2 rfl ?_
  refine zr_if (c := x < y) (t := (14, [some (.int x), some (.int y), some (.int z)], [], (zw_M g gl a al))) (f := (5, [some (.int x), some (.int y), some (.int z)], [], (zw_M g gl a al))) rfl (fun h1 => ?_) (fun h1 => ?_)
  · skip
    refine zr_go (t := (15, [some (.int x), some (.int y), some (.int z)], [.int 0], (zw_M g gl a al))) 1 rfl ?_
    exact zr_ret rfl (Or.inl rfl) ⟨Or.inr ⟨fun q => absurd h1 (Int32.not_lt.mpr q.1), rfl⟩, rfl⟩
  · skip
    refine zr_go (t := (7, [some (.int x), some (.int y), some (.int z)], [.int z, .int x], (zw_M g gl a al))) 2 rfl ?_
    refine zr_if (c := z < x) (t := (14, [some (.int x), some (.int y), some (.int z)], [], (zw_M g gl a al))) (f := (10, [some (.int x), some (.int y), some (.int z)], [], (zw_M g gl a al))) rfl (fun h2 => ?_) (fun h2 => ?_)
    · skip
      refine zr_go (t := (15, [some (.int x), some (.int y), some (.int z)], [.int 0], (zw_M g gl a al))) 1 rfl ?_
      exact zr_ret rfl (Or.inl rfl) ⟨Or.inr ⟨fun q => absurd h2 (Int32.not_lt.mpr q.2), rfl⟩, rfl⟩
    · skip
      refine zr_go (t := (15, [some (.int x), some (.int y), some (.int z)], [.int 1], (zw_M g gl a al))) 2 rfl ?_
      exact zr_ret rfl (Or.inr rfl) ⟨Or.inl ⟨⟨Int32.not_lt.mp h1, Int32.not_lt.mp h2⟩, rfl⟩, rfl⟩
/-- the sum of the form at a vector, as a number -/
def zv_row (N : Nat) (c x : Nat → Nat) (i : Nat) : Nat := zS (fun t => c (6 * i + (i + t)) * x i * x (i + t)) (N - i)
def zv_sum (N : Nat) (c x : Nat → Nat) : Nat := zS (zv_row N c x) N
theorem zv_sum_lt {N : Nat} {c x : Nat → Nat} (hN : N ≤ 6) (hc : ∀ k, k < 36 → c k ≤ 4) (hx : ∀ i, i < 6 → x i ≤ 4) : zv_sum N c x ≤ 2304 := by
  have h1 : ∀ i, i < N → zv_row N c x i ≤ 6 * 64 := by
    intro i hi
    refine Nat.le_trans (zS_le (B := 64) (N - i) (fun t ht => ?_)) (Nat.mul_le_mul_right _ (by omega))
    have a1 := hc (6 * i + (i + t)) (by omega)
    have a2 := hx i (by omega)
    have a3 := hx (i + t) (by omega)
    exact Nat.mul_le_mul (Nat.mul_le_mul a1 a2) a3
  exact Nat.le_trans (zS_le N h1) (Nat.le_trans (Nat.mul_le_mul_right _ hN) (by decide))
theorem zS_snoc {f : Nat → Nat} {i N : Nat} : zS f i + f i = zS f (i + 1) := rfl
theorem zs_M_valueOf_9 (g : Nat → Int32) (gl : Nat → Int64) (a : Nat → Nat → Int32) (al : Nat → Nat → Int64) (P N : Nat) (c x : Nat → Nat) (hP : g 0 = nI P) (hN : g 1 = nI N) (hP0 : 0 < P) (hP5 : P ≤ 5) (hN6 : N ≤ 6) (hc : ∀ k, k < 36 → a 1 k = nI (c k)) (hx : ∀ i, i < 6 → a 9 i = nI (x i)) (hc4 : ∀ k, k < 36 → c k ≤ 4) (hx4 : ∀ i, i < 6 → x i ≤ 4) : zm_Ev zt_get 1 122 [.ref 0, .ref 9] (zw_M g gl a al) (fun v w => v = some (.int (nI (zv_sum N c x % P))) ∧ w = (zw_M g gl a al)) := by
  refine zr_ev zt_M_valueOf rfl rfl ?_
  show zm_Run zt_get 0 zt_M_valueOf (0, [some (.ref 0), some (.ref 9), none, none, none], [], (zw_M g gl a al)) _
  refine zr_go (t := (4, [some (.ref 0), some (.ref 9), some (.int 0), some (.int 0), none], [], (zw_M g gl a al))) 4 rfl ?_
  refine zr_loop (fun q : Nat × Nat => (4, [some (.ref 0), some (.ref 9), some (.int (nI q.2)), some (.int (nI q.1)), none], [], (zw_M g gl a al))) (fun q => q.1 ≤ N ∧ q.2 = zS (zv_row N c x) q.1) (fun q => N - q.1) ?_ (0, 0) ⟨Nat.zero_le _, rfl⟩
  rintro ⟨i, S⟩ ⟨hi, hS⟩ ih
  dsimp only at hi hS ih ⊢
  refine zr_go (t := (9, [some (.ref 0), some (.ref 9), some (.int (nI S)), some (.int (nI i)), none], [.int (g 1), .int (nI i)], (zw_M g gl a al))) 3 rfl ?_
  refine zr_ige (x := nI i) (y := g 1) i N rfl hN (by omega) (by omega) (t := (60, [some (.ref 0), some (.ref 9), some (.int (nI S)), some (.int (nI i)), none], [], (zw_M g gl a al))) (f := (12, [some (.ref 0), some (.ref 9), some (.int (nI S)), some (.int (nI i)), none], [], (zw_M g gl a al))) rfl (fun h1 => ?_) (fun h1 => ?_)
  · skip
    refine zr_go (t := (65, [some (.ref 0), some (.ref 9), some (.int (nI S)), some (.int (nI i)), none], [.int (g 0), .int (nI S)], (zw_M g gl a al))) 3 rfl ?_
    refine zr_cd (t := (66, [some (.ref 0), some (.ref 9), some (.int (nI S)), some (.int (nI i)), none], [.int ((nI S) - (nI S) / (g 0) * (g 0))], (zw_M g gl a al))) rfl (zn_ne0 hP (by have := zv_sum_lt hN6 hc4 hx4; have : S = zv_sum N c x := (by rw [hS, show i = N by omega]; rfl); omega) (by have := zv_sum_lt hN6 hc4 hx4; have : S = zv_sum N c x := (by rw [hS, show i = N by omega]; rfl); omega)) ?_
    rw [show (nI S) - (nI S) / (g 0) * (g 0) = nI (S % P) from (zn_rem rfl hP (by have := zv_sum_lt hN6 hc4 hx4; have : S = zv_sum N c x := (by rw [hS, show i = N by omega]; rfl); omega) (by have := zv_sum_lt hN6 hc4 hx4; have : S = zv_sum N c x := (by rw [hS, show i = N by omega]; rfl); omega) (by have := zv_sum_lt hN6 hc4 hx4; have : S = zv_sum N c x := (by rw [hS, show i = N by omega]; rfl); omega))]
    exact zr_ret rfl trivial ⟨by rw [hS, show i = N by omega]; rfl, rfl⟩
  · skip
    refine zr_go (t := (15, [some (.ref 0), some (.ref 9), some (.int (nI S)), some (.int (nI i)), some (.int (nI i))], [], (zw_M g gl a al))) 2 rfl ?_
    refine zr_loop (fun q : Nat × Nat => (15, [some (.ref 0), some (.ref 9), some (.int (nI q.2)), some (.int (nI i)), some (.int (nI q.1))], [], (zw_M g gl a al))) (fun q => i ≤ q.1 ∧ q.1 ≤ N ∧ q.2 = zS (zv_row N c x) i + zS (fun t => c (6 * i + (i + t)) * x i * x (i + t)) (q.1 - i)) (fun q => N - q.1) ?_ (i, S) ⟨Nat.le_refl _, hi, by rw [Nat.sub_self]; exact hS⟩
    rintro ⟨j, S2⟩ ⟨hj1, hj2, hS2⟩ ih2
    dsimp only at hj1 hj2 hS2 ih2 ⊢
    refine zr_go (t := (21, [some (.ref 0), some (.ref 9), some (.int (nI S2)), some (.int (nI i)), some (.int (nI j))], [.int (g 1), .int (nI j)], (zw_M g gl a al))) 3 rfl ?_
    refine zr_ige (x := nI j) (y := g 1) j N rfl hN (by omega) (by omega) (t := (54, [some (.ref 0), some (.ref 9), some (.int (nI S2)), some (.int (nI i)), some (.int (nI j))], [], (zw_M g gl a al))) (f := (24, [some (.ref 0), some (.ref 9), some (.int (nI S2)), some (.int (nI i)), some (.int (nI j))], [], (zw_M g gl a al))) rfl (fun h2 => ?_) (fun h2 => ?_)
    · skip
      refine zr_go (t := (4, [some (.ref 0), some (.ref 9), some (.int (nI S2)), some (.int ((nI i) + 1)), some (.int (nI j))], [], (zw_M g gl a al))) 2 rfl ?_
      rw [show nI i + 1 = nI (i + 1) from nI_1 i]
      refine zr_forget [some (.ref 0), some (.ref 9), some (.int (nI S2)), some (.int (nI (i + 1))), none] ⟨Or.inr rfl, Or.inr rfl, Or.inr rfl, Or.inr rfl, Or.inl rfl, trivial⟩ ?_
      exact ih (i + 1, S2) ⟨by omega, by rw [hS2, show j = N by omega]; rfl⟩ (by show N - (i + 1) < N - i; omega)
    · skip
      refine zr_go (t := (36, [some (.ref 0), some (.ref 9), some (.int (nI S2)), some (.int (nI i)), some (.int (nI j))], [.int ((6 * (nI i)) + (nI j)), .ref 1, .int (nI S2)], (zw_M g gl a al))) 8 rfl ?_
      refine zr_cd (t := (37, [some (.ref 0), some (.ref 9), some (.int (nI S2)), some (.int (nI i)), some (.int (nI j))], [.int ((a 1) ((6 * (nI i)) + (nI j)).toNatClampNeg), .int (nI S2)], (zw_M g gl a al))) rfl (pk_in ((6 * i) + j) 36 (by omega) (zn_add (zn_mul rfl rfl) rfl) (by omega)) ?_
      rw [pk_cl (x := (6 * (nI i)) + (nI j)) ((6 * i) + j) (zn_add (zn_mul rfl rfl) rfl) (by omega)]
      rw [show (a 1) ((6 * i) + j) = nI (c ((6 * i) + j)) from hc ((6 * i) + j) (by omega)]
      refine zr_go (t := (39, [some (.ref 0), some (.ref 9), some (.int (nI S2)), some (.int (nI i)), some (.int (nI j))], [.int (nI i), .ref 9, .int (nI (c ((6 * i) + j))), .int (nI S2)], (zw_M g gl a al))) 2 rfl ?_
      refine zr_cd (t := (40, [some (.ref 0), some (.ref 9), some (.int (nI S2)), some (.int (nI i)), some (.int (nI j))], [.int ((a 9) (nI i).toNatClampNeg), .int (nI (c ((6 * i) + j))), .int (nI S2)], (zw_M g gl a al))) rfl (pk_in i 6 (by omega) rfl (by omega)) ?_
      rw [pk_cl (x := nI i) i rfl (by omega)]
      rw [show (a 9) i = nI (x i) from hx i (by omega)]
      refine zr_go (t := (44, [some (.ref 0), some (.ref 9), some (.int (nI S2)), some (.int (nI i)), some (.int (nI j))], [.int (nI j), .ref 9, .int ((nI (c ((6 * i) + j))) * (nI (x i))), .int (nI S2)], (zw_M g gl a al))) 3 rfl ?_
      refine zr_cd (t := (45, [some (.ref 0), some (.ref 9), some (.int (nI S2)), some (.int (nI i)), some (.int (nI j))], [.int ((a 9) (nI j).toNatClampNeg), .int ((nI (c ((6 * i) + j))) * (nI (x i))), .int (nI S2)], (zw_M g gl a al))) rfl (pk_in j 6 (by omega) rfl (by omega)) ?_
      rw [pk_cl (x := nI j) j rfl (by omega)]
      rw [show (a 9) j = nI (x j) from hx j (by omega)]
      refine zr_go (t := (15, [some (.ref 0), some (.ref 9), some (.int ((nI S2) + (((nI (c ((6 * i) + j))) * (nI (x i))) * (nI (x j))))), some (.int (nI i)), some (.int ((nI j) + 1))], [], (zw_M g gl a al))) 5 rfl ?_
      have e1 : (nI S2) + (((nI (c ((6 * i) + j))) * (nI (x i))) * (nI (x j))) = nI (S2 + c (6 * i + j) * x i * x j) := (zn_add rfl (zn_mul (zn_mul rfl rfl) rfl))
      rw [e1, show nI j + 1 = nI (j + 1) from nI_1 j]
      refine ih2 (j + 1, _) ⟨by omega, by omega, ?_⟩ (by show N - (j + 1) < N - j; omega)
      show S2 + c (6 * i + j) * x i * x j = _
      rw [hS2, show j + 1 - i = (j - i) + 1 by omega]
      show _ = _ + (zS _ (j - i) + _)
      dsimp only
      rw [show i + (j - i) = j by omega, Nat.add_assoc]
theorem zs_M_valueOf_10 (g : Nat → Int32) (gl : Nat → Int64) (a : Nat → Nat → Int32) (al : Nat → Nat → Int64) (P N : Nat) (c x : Nat → Nat) (hP : g 0 = nI P) (hN : g 1 = nI N) (hP0 : 0 < P) (hP5 : P ≤ 5) (hN6 : N ≤ 6) (hc : ∀ k, k < 36 → a 1 k = nI (c k)) (hx : ∀ i, i < 6 → a 10 i = nI (x i)) (hc4 : ∀ k, k < 36 → c k ≤ 4) (hx4 : ∀ i, i < 6 → x i ≤ 4) : zm_Ev zt_get 1 122 [.ref 0, .ref 10] (zw_M g gl a al) (fun v w => v = some (.int (nI (zv_sum N c x % P))) ∧ w = (zw_M g gl a al)) := by
  refine zr_ev zt_M_valueOf rfl rfl ?_
  show zm_Run zt_get 0 zt_M_valueOf (0, [some (.ref 0), some (.ref 10), none, none, none], [], (zw_M g gl a al)) _
  refine zr_go (t := (4, [some (.ref 0), some (.ref 10), some (.int 0), some (.int 0), none], [], (zw_M g gl a al))) 4 rfl ?_
  refine zr_loop (fun q : Nat × Nat => (4, [some (.ref 0), some (.ref 10), some (.int (nI q.2)), some (.int (nI q.1)), none], [], (zw_M g gl a al))) (fun q => q.1 ≤ N ∧ q.2 = zS (zv_row N c x) q.1) (fun q => N - q.1) ?_ (0, 0) ⟨Nat.zero_le _, rfl⟩
  rintro ⟨i, S⟩ ⟨hi, hS⟩ ih
  dsimp only at hi hS ih ⊢
  refine zr_go (t := (9, [some (.ref 0), some (.ref 10), some (.int (nI S)), some (.int (nI i)), none], [.int (g 1), .int (nI i)], (zw_M g gl a al))) 3 rfl ?_
  refine zr_ige (x := nI i) (y := g 1) i N rfl hN (by omega) (by omega) (t := (60, [some (.ref 0), some (.ref 10), some (.int (nI S)), some (.int (nI i)), none], [], (zw_M g gl a al))) (f := (12, [some (.ref 0), some (.ref 10), some (.int (nI S)), some (.int (nI i)), none], [], (zw_M g gl a al))) rfl (fun h1 => ?_) (fun h1 => ?_)
  · skip
    refine zr_go (t := (65, [some (.ref 0), some (.ref 10), some (.int (nI S)), some (.int (nI i)), none], [.int (g 0), .int (nI S)], (zw_M g gl a al))) 3 rfl ?_
    refine zr_cd (t := (66, [some (.ref 0), some (.ref 10), some (.int (nI S)), some (.int (nI i)), none], [.int ((nI S) - (nI S) / (g 0) * (g 0))], (zw_M g gl a al))) rfl (zn_ne0 hP (by have := zv_sum_lt hN6 hc4 hx4; have : S = zv_sum N c x := (by rw [hS, show i = N by omega]; rfl); omega) (by have := zv_sum_lt hN6 hc4 hx4; have : S = zv_sum N c x := (by rw [hS, show i = N by omega]; rfl); omega)) ?_
    rw [show (nI S) - (nI S) / (g 0) * (g 0) = nI (S % P) from (zn_rem rfl hP (by have := zv_sum_lt hN6 hc4 hx4; have : S = zv_sum N c x := (by rw [hS, show i = N by omega]; rfl); omega) (by have := zv_sum_lt hN6 hc4 hx4; have : S = zv_sum N c x := (by rw [hS, show i = N by omega]; rfl); omega) (by have := zv_sum_lt hN6 hc4 hx4; have : S = zv_sum N c x := (by rw [hS, show i = N by omega]; rfl); omega))]
    exact zr_ret rfl trivial ⟨by rw [hS, show i = N by omega]; rfl, rfl⟩
  · skip
    refine zr_go (t := (15, [some (.ref 0), some (.ref 10), some (.int (nI S)), some (.int (nI i)), some (.int (nI i))], [], (zw_M g gl a al))) 2 rfl ?_
    refine zr_loop (fun q : Nat × Nat => (15, [some (.ref 0), some (.ref 10), some (.int (nI q.2)), some (.int (nI i)), some (.int (nI q.1))], [], (zw_M g gl a al))) (fun q => i ≤ q.1 ∧ q.1 ≤ N ∧ q.2 = zS (zv_row N c x) i + zS (fun t => c (6 * i + (i + t)) * x i * x (i + t)) (q.1 - i)) (fun q => N - q.1) ?_ (i, S) ⟨Nat.le_refl _, hi, by rw [Nat.sub_self]; exact hS⟩
    rintro ⟨j, S2⟩ ⟨hj1, hj2, hS2⟩ ih2
    dsimp only at hj1 hj2 hS2 ih2 ⊢
    refine zr_go (t := (21, [some (.ref 0), some (.ref 10), some (.int (nI S2)), some (.int (nI i)), some (.int (nI j))], [.int (g 1), .int (nI j)], (zw_M g gl a al))) 3 rfl ?_
    refine zr_ige (x := nI j) (y := g 1) j N rfl hN (by omega) (by omega) (t := (54, [some (.ref 0), some (.ref 10), some (.int (nI S2)), some (.int (nI i)), some (.int (nI j))], [], (zw_M g gl a al))) (f := (24, [some (.ref 0), some (.ref 10), some (.int (nI S2)), some (.int (nI i)), some (.int (nI j))], [], (zw_M g gl a al))) rfl (fun h2 => ?_) (fun h2 => ?_)
    · skip
      refine zr_go (t := (4, [some (.ref 0), some (.ref 10), some (.int (nI S2)), some (.int ((nI i) + 1)), some (.int (nI j))], [], (zw_M g gl a al))) 2 rfl ?_
      rw [show nI i + 1 = nI (i + 1) from nI_1 i]
      refine zr_forget [some (.ref 0), some (.ref 10), some (.int (nI S2)), some (.int (nI (i + 1))), none] ⟨Or.inr rfl, Or.inr rfl, Or.inr rfl, Or.inr rfl, Or.inl rfl, trivial⟩ ?_
      exact ih (i + 1, S2) ⟨by omega, by rw [hS2, show j = N by omega]; rfl⟩ (by show N - (i + 1) < N - i; omega)
    · skip
      refine zr_go (t := (36, [some (.ref 0), some (.ref 10), some (.int (nI S2)), some (.int (nI i)), some (.int (nI j))], [.int ((6 * (nI i)) + (nI j)), .ref 1, .int (nI S2)], (zw_M g gl a al))) 8 rfl ?_
      refine zr_cd (t := (37, [some (.ref 0), some (.ref 10), some (.int (nI S2)), some (.int (nI i)), some (.int (nI j))], [.int ((a 1) ((6 * (nI i)) + (nI j)).toNatClampNeg), .int (nI S2)], (zw_M g gl a al))) rfl (pk_in ((6 * i) + j) 36 (by omega) (zn_add (zn_mul rfl rfl) rfl) (by omega)) ?_
      rw [pk_cl (x := (6 * (nI i)) + (nI j)) ((6 * i) + j) (zn_add (zn_mul rfl rfl) rfl) (by omega)]
      rw [show (a 1) ((6 * i) + j) = nI (c ((6 * i) + j)) from hc ((6 * i) + j) (by omega)]
      refine zr_go (t := (39, [some (.ref 0), some (.ref 10), some (.int (nI S2)), some (.int (nI i)), some (.int (nI j))], [.int (nI i), .ref 10, .int (nI (c ((6 * i) + j))), .int (nI S2)], (zw_M g gl a al))) 2 rfl ?_
      refine zr_cd (t := (40, [some (.ref 0), some (.ref 10), some (.int (nI S2)), some (.int (nI i)), some (.int (nI j))], [.int ((a 10) (nI i).toNatClampNeg), .int (nI (c ((6 * i) + j))), .int (nI S2)], (zw_M g gl a al))) rfl (pk_in i 6 (by omega) rfl (by omega)) ?_
      rw [pk_cl (x := nI i) i rfl (by omega)]
      rw [show (a 10) i = nI (x i) from hx i (by omega)]
      refine zr_go (t := (44, [some (.ref 0), some (.ref 10), some (.int (nI S2)), some (.int (nI i)), some (.int (nI j))], [.int (nI j), .ref 10, .int ((nI (c ((6 * i) + j))) * (nI (x i))), .int (nI S2)], (zw_M g gl a al))) 3 rfl ?_
      refine zr_cd (t := (45, [some (.ref 0), some (.ref 10), some (.int (nI S2)), some (.int (nI i)), some (.int (nI j))], [.int ((a 10) (nI j).toNatClampNeg), .int ((nI (c ((6 * i) + j))) * (nI (x i))), .int (nI S2)], (zw_M g gl a al))) rfl (pk_in j 6 (by omega) rfl (by omega)) ?_
      rw [pk_cl (x := nI j) j rfl (by omega)]
      rw [show (a 10) j = nI (x j) from hx j (by omega)]
      refine zr_go (t := (15, [some (.ref 0), some (.ref 10), some (.int ((nI S2) + (((nI (c ((6 * i) + j))) * (nI (x i))) * (nI (x j))))), some (.int (nI i)), some (.int ((nI j) + 1))], [], (zw_M g gl a al))) 5 rfl ?_
      have e1 : (nI S2) + (((nI (c ((6 * i) + j))) * (nI (x i))) * (nI (x j))) = nI (S2 + c (6 * i + j) * x i * x j) := (zn_add rfl (zn_mul (zn_mul rfl rfl) rfl))
      rw [e1, show nI j + 1 = nI (j + 1) from nI_1 j]
      refine ih2 (j + 1, _) ⟨by omega, by omega, ?_⟩ (by show N - (j + 1) < N - j; omega)
      show S2 + c (6 * i + j) * x i * x j = _
      rw [hS2, show j + 1 - i = (j - i) + 1 by omega]
      show _ = _ + (zS _ (j - i) + _)
      dsimp only
      rw [show i + (j - i) = j by omega, Nat.add_assoc]
theorem zs_M_valueOf_11 (g : Nat → Int32) (gl : Nat → Int64) (a : Nat → Nat → Int32) (al : Nat → Nat → Int64) (P N : Nat) (c x : Nat → Nat) (hP : g 0 = nI P) (hN : g 1 = nI N) (hP0 : 0 < P) (hP5 : P ≤ 5) (hN6 : N ≤ 6) (hc : ∀ k, k < 36 → a 1 k = nI (c k)) (hx : ∀ i, i < 6 → a 11 i = nI (x i)) (hc4 : ∀ k, k < 36 → c k ≤ 4) (hx4 : ∀ i, i < 6 → x i ≤ 4) : zm_Ev zt_get 1 122 [.ref 0, .ref 11] (zw_M g gl a al) (fun v w => v = some (.int (nI (zv_sum N c x % P))) ∧ w = (zw_M g gl a al)) := by
  refine zr_ev zt_M_valueOf rfl rfl ?_
  show zm_Run zt_get 0 zt_M_valueOf (0, [some (.ref 0), some (.ref 11), none, none, none], [], (zw_M g gl a al)) _
  refine zr_go (t := (4, [some (.ref 0), some (.ref 11), some (.int 0), some (.int 0), none], [], (zw_M g gl a al))) 4 rfl ?_
  refine zr_loop (fun q : Nat × Nat => (4, [some (.ref 0), some (.ref 11), some (.int (nI q.2)), some (.int (nI q.1)), none], [], (zw_M g gl a al))) (fun q => q.1 ≤ N ∧ q.2 = zS (zv_row N c x) q.1) (fun q => N - q.1) ?_ (0, 0) ⟨Nat.zero_le _, rfl⟩
  rintro ⟨i, S⟩ ⟨hi, hS⟩ ih
  dsimp only at hi hS ih ⊢
  refine zr_go (t := (9, [some (.ref 0), some (.ref 11), some (.int (nI S)), some (.int (nI i)), none], [.int (g 1), .int (nI i)], (zw_M g gl a al))) 3 rfl ?_
  refine zr_ige (x := nI i) (y := g 1) i N rfl hN (by omega) (by omega) (t := (60, [some (.ref 0), some (.ref 11), some (.int (nI S)), some (.int (nI i)), none], [], (zw_M g gl a al))) (f := (12, [some (.ref 0), some (.ref 11), some (.int (nI S)), some (.int (nI i)), none], [], (zw_M g gl a al))) rfl (fun h1 => ?_) (fun h1 => ?_)
  · skip
    refine zr_go (t := (65, [some (.ref 0), some (.ref 11), some (.int (nI S)), some (.int (nI i)), none], [.int (g 0), .int (nI S)], (zw_M g gl a al))) 3 rfl ?_
    refine zr_cd (t := (66, [some (.ref 0), some (.ref 11), some (.int (nI S)), some (.int (nI i)), none], [.int ((nI S) - (nI S) / (g 0) * (g 0))], (zw_M g gl a al))) rfl (zn_ne0 hP (by have := zv_sum_lt hN6 hc4 hx4; have : S = zv_sum N c x := (by rw [hS, show i = N by omega]; rfl); omega) (by have := zv_sum_lt hN6 hc4 hx4; have : S = zv_sum N c x := (by rw [hS, show i = N by omega]; rfl); omega)) ?_
    rw [show (nI S) - (nI S) / (g 0) * (g 0) = nI (S % P) from (zn_rem rfl hP (by have := zv_sum_lt hN6 hc4 hx4; have : S = zv_sum N c x := (by rw [hS, show i = N by omega]; rfl); omega) (by have := zv_sum_lt hN6 hc4 hx4; have : S = zv_sum N c x := (by rw [hS, show i = N by omega]; rfl); omega) (by have := zv_sum_lt hN6 hc4 hx4; have : S = zv_sum N c x := (by rw [hS, show i = N by omega]; rfl); omega))]
    exact zr_ret rfl trivial ⟨by rw [hS, show i = N by omega]; rfl, rfl⟩
  · skip
    refine zr_go (t := (15, [some (.ref 0), some (.ref 11), some (.int (nI S)), some (.int (nI i)), some (.int (nI i))], [], (zw_M g gl a al))) 2 rfl ?_
    refine zr_loop (fun q : Nat × Nat => (15, [some (.ref 0), some (.ref 11), some (.int (nI q.2)), some (.int (nI i)), some (.int (nI q.1))], [], (zw_M g gl a al))) (fun q => i ≤ q.1 ∧ q.1 ≤ N ∧ q.2 = zS (zv_row N c x) i + zS (fun t => c (6 * i + (i + t)) * x i * x (i + t)) (q.1 - i)) (fun q => N - q.1) ?_ (i, S) ⟨Nat.le_refl _, hi, by rw [Nat.sub_self]; exact hS⟩
    rintro ⟨j, S2⟩ ⟨hj1, hj2, hS2⟩ ih2
    dsimp only at hj1 hj2 hS2 ih2 ⊢
    refine zr_go (t := (21, [some (.ref 0), some (.ref 11), some (.int (nI S2)), some (.int (nI i)), some (.int (nI j))], [.int (g 1), .int (nI j)], (zw_M g gl a al))) 3 rfl ?_
    refine zr_ige (x := nI j) (y := g 1) j N rfl hN (by omega) (by omega) (t := (54, [some (.ref 0), some (.ref 11), some (.int (nI S2)), some (.int (nI i)), some (.int (nI j))], [], (zw_M g gl a al))) (f := (24, [some (.ref 0), some (.ref 11), some (.int (nI S2)), some (.int (nI i)), some (.int (nI j))], [], (zw_M g gl a al))) rfl (fun h2 => ?_) (fun h2 => ?_)
    · skip
      refine zr_go (t := (4, [some (.ref 0), some (.ref 11), some (.int (nI S2)), some (.int ((nI i) + 1)), some (.int (nI j))], [], (zw_M g gl a al))) 2 rfl ?_
      rw [show nI i + 1 = nI (i + 1) from nI_1 i]
      refine zr_forget [some (.ref 0), some (.ref 11), some (.int (nI S2)), some (.int (nI (i + 1))), none] ⟨Or.inr rfl, Or.inr rfl, Or.inr rfl, Or.inr rfl, Or.inl rfl, trivial⟩ ?_
      exact ih (i + 1, S2) ⟨by omega, by rw [hS2, show j = N by omega]; rfl⟩ (by show N - (i + 1) < N - i; omega)
    · skip
      refine zr_go (t := (36, [some (.ref 0), some (.ref 11), some (.int (nI S2)), some (.int (nI i)), some (.int (nI j))], [.int ((6 * (nI i)) + (nI j)), .ref 1, .int (nI S2)], (zw_M g gl a al))) 8 rfl ?_
      refine zr_cd (t := (37, [some (.ref 0), some (.ref 11), some (.int (nI S2)), some (.int (nI i)), some (.int (nI j))], [.int ((a 1) ((6 * (nI i)) + (nI j)).toNatClampNeg), .int (nI S2)], (zw_M g gl a al))) rfl (pk_in ((6 * i) + j) 36 (by omega) (zn_add (zn_mul rfl rfl) rfl) (by omega)) ?_
      rw [pk_cl (x := (6 * (nI i)) + (nI j)) ((6 * i) + j) (zn_add (zn_mul rfl rfl) rfl) (by omega)]
      rw [show (a 1) ((6 * i) + j) = nI (c ((6 * i) + j)) from hc ((6 * i) + j) (by omega)]
      refine zr_go (t := (39, [some (.ref 0), some (.ref 11), some (.int (nI S2)), some (.int (nI i)), some (.int (nI j))], [.int (nI i), .ref 11, .int (nI (c ((6 * i) + j))), .int (nI S2)], (zw_M g gl a al))) 2 rfl ?_
      refine zr_cd (t := (40, [some (.ref 0), some (.ref 11), some (.int (nI S2)), some (.int (nI i)), some (.int (nI j))], [.int ((a 11) (nI i).toNatClampNeg), .int (nI (c ((6 * i) + j))), .int (nI S2)], (zw_M g gl a al))) rfl (pk_in i 6 (by omega) rfl (by omega)) ?_
      rw [pk_cl (x := nI i) i rfl (by omega)]
      rw [show (a 11) i = nI (x i) from hx i (by omega)]
      refine zr_go (t := (44, [some (.ref 0), some (.ref 11), some (.int (nI S2)), some (.int (nI i)), some (.int (nI j))], [.int (nI j), .ref 11, .int ((nI (c ((6 * i) + j))) * (nI (x i))), .int (nI S2)], (zw_M g gl a al))) 3 rfl ?_
      refine zr_cd (t := (45, [some (.ref 0), some (.ref 11), some (.int (nI S2)), some (.int (nI i)), some (.int (nI j))], [.int ((a 11) (nI j).toNatClampNeg), .int ((nI (c ((6 * i) + j))) * (nI (x i))), .int (nI S2)], (zw_M g gl a al))) rfl (pk_in j 6 (by omega) rfl (by omega)) ?_
      rw [pk_cl (x := nI j) j rfl (by omega)]
      rw [show (a 11) j = nI (x j) from hx j (by omega)]
      refine zr_go (t := (15, [some (.ref 0), some (.ref 11), some (.int ((nI S2) + (((nI (c ((6 * i) + j))) * (nI (x i))) * (nI (x j))))), some (.int (nI i)), some (.int ((nI j) + 1))], [], (zw_M g gl a al))) 5 rfl ?_
      have e1 : (nI S2) + (((nI (c ((6 * i) + j))) * (nI (x i))) * (nI (x j))) = nI (S2 + c (6 * i + j) * x i * x j) := (zn_add rfl (zn_mul (zn_mul rfl rfl) rfl))
      rw [e1, show nI j + 1 = nI (j + 1) from nI_1 j]
      refine ih2 (j + 1, _) ⟨by omega, by omega, ?_⟩ (by show N - (j + 1) < N - j; omega)
      show S2 + c (6 * i + j) * x i * x j = _
      rw [hS2, show j + 1 - i = (j - i) + 1 by omega]
      show _ = _ + (zS _ (j - i) + _)
      dsimp only
      rw [show i + (j - i) = j by omega, Nat.add_assoc]
end
section
/-! the reference: rows, values, polar values (written by wip/whole/gen_m2.py) -/
/-- the form as the reference holds it -/
def zc_F (g : Nat → Int32) (a : Nat → Nat → Int32) (P N : Nat) (c : Nat → Nat) : Prop := g 0 = nI P ∧ g 1 = nI N ∧ 0 < P ∧ P ≤ 5 ∧ N ≤ 6 ∧ (∀ k, k < 36 → a 1 k = nI (c k)) ∧ ∀ k, k < 36 → c k ≤ 4
/-- the points' rows -/
def zc_R (g : Nat → Int32) (a : Nat → Nat → Int32) (np : Nat) (y : Nat → Nat → Nat) : Prop := g 6 = nI np ∧ np ≤ 156 ∧ (∀ p i, p < np → i < 6 → a 3 (6 * p + i) = nI (y p i)) ∧ ∀ p i, p < np → i < 6 → y p i ≤ 4
/-- which points are on -/
def zc_O (a : Nat → Nat → Int32) (np : Nat) (o : Nat → Bool) : Prop := ∀ p, p < np → a 5 p = nI (o p).toNat
/-- all of the first n -/
def zA (f : Nat → Bool) : Nat → Bool
  | 0 => true
  | n + 1 => zA f n && f n
theorem zA_no {f : Nat → Bool} {k n : Nat} (h : zA f k = false) (hk : k ≤ n) : zA f n = false := by
  induction hk with
  | refl => exact h
  | step _ ih => show (zA f _ && f _) = false; rw [ih]; rfl
theorem zA_iff {f : Nat → Bool} {n : Nat} : zA f n = true ↔ ∀ k, k < n → f k = true := by
  induction n with
  | zero => exact ⟨fun _ k h => absurd h (Nat.not_lt_zero k), fun _ => rfl⟩
  | succ n ih =>
    show (zA f n && f n) = true ↔ _
    rw [Bool.and_eq_true, ih]
    exact ⟨fun h k hk => if e : k = n then e ▸ h.2 else h.1 k (by omega), fun h => ⟨fun k hk => h k (by omega), h n (by omega)⟩⟩
theorem zb_0 {b : Bool} (h : b.toNat = 0) : b = false := by cases b <;> simp_all
theorem zb_1 {b : Bool} (h : b.toNat ≠ 0) : b = true := by cases b <;> simp_all
theorem zb_le (b : Bool) : b.toNat ≤ 1 := by cases b <;> decide
theorem zb_ok (b : Bool) : nI b.toNat = 0 ∨ nI b.toNat = 1 := by cases b <;> simp [nI]
def zv_val (P N : Nat) (c x : Nat → Nat) : Nat := zv_sum N c x % P
/-- the first of six numbers that isn't 0 -/
def zv_ff (x : Nat → Nat) : Nat → Nat
  | 0 => 0
  | k + 1 => if x (5 - k) = 0 then zv_ff x k else x (5 - k)
def zv_plus (P : Nat) (x y : Nat → Nat) : Nat → Nat := fun i => (x i + y i) % P
def zv_pol (P N : Nat) (c x y : Nat → Nat) : Nat := (zv_val P N c (zv_plus P x y) + 2 * P - zv_val P N c x - zv_val P N c y) % P
theorem zv_modp : ∀ P, P < 6 → 0 < P → ∀ A, A < P → ∀ B, B < P → ∀ C, C < P → zv_mod (nI A - nI B - nI C) (nI P) = nI ((A + 2 * P - B - C) % P) := by decide +kernel
theorem zv_val_lt {P N : Nat} {c x : Nat → Nat} (h : 0 < P) : zv_val P N c x < P := Nat.mod_lt _ h
theorem zs_M_firstOf_9 (g : Nat → Int32) (gl : Nat → Int64) (a : Nat → Nat → Int32) (al : Nat → Nat → Int64) (x : Nat → Nat) (hx : ∀ i, i < 6 → a 9 i = nI (x i)) (hx4 : ∀ i, i < 6 → x i ≤ 4) : zm_Ev zt_get 1 118 [.ref 9] (zw_M g gl a al) (fun v w => v = some (.int (nI (zv_ff x 6))) ∧ w = (zw_M g gl a al)) := by
  refine zr_ev zt_M_firstOf rfl rfl ?_
  show zm_Run zt_get 0 zt_M_firstOf (0, [some (.ref 9), none], [], (zw_M g gl a al)) _
  refine zr_go (t := (2, [some (.ref 9), some (.int 0)], [], (zw_M g gl a al))) 2 rfl ?_
  refine zr_loop (fun q : Nat => (2, [some (.ref 9), some (.int (nI q))], [], (zw_M g gl a al))) (fun q => q ≤ 6 ∧ zv_ff x (6 - q) = zv_ff x 6) (fun q => 6 - q) ?_ 0 ⟨by omega, rfl⟩
  rintro i ⟨hi, hf⟩ ih
  try dsimp only at *
  refine zr_go (t := (5, [some (.ref 9), some (.int (nI i))], [.int 6, .int (nI i)], (zw_M g gl a al))) 2 rfl ?_
  refine zr_ige (x := nI i) (y := 6) i 6 rfl rfl (by omega) (by omega) (t := (20, [some (.ref 9), some (.int (nI i))], [], (zw_M g gl a al))) (f := (8, [some (.ref 9), some (.int (nI i))], [], (zw_M g gl a al))) rfl (fun h1 => ?_) (fun h1 => ?_)
  · skip
    refine zr_go (t := (23, [some (.ref 9), some (.int (nI i))], [.int 6, .int (nI i)], (zw_M g gl a al))) 2 rfl ?_
    refine zr_ige (x := nI i) (y := 6) i 6 rfl rfl (by omega) (by omega) (t := (32, [some (.ref 9), some (.int (nI i))], [], (zw_M g gl a al))) (f := (26, [some (.ref 9), some (.int (nI i))], [], (zw_M g gl a al))) rfl (fun h2 => ?_) (fun h2 => ?_)
    · skip
      refine zr_go (t := (33, [some (.ref 9), some (.int (nI i))], [.int 0], (zw_M g gl a al))) 1 rfl ?_
      exact zr_ret rfl trivial ⟨by rw [← hf, show 6 - i = 0 by omega]; rfl, rfl⟩
    · skip
      exfalso; omega
  · skip
    refine zr_go (t := (10, [some (.ref 9), some (.int (nI i))], [.int (nI i), .ref 9], (zw_M g gl a al))) 2 rfl ?_
    refine zr_cd (t := (11, [some (.ref 9), some (.int (nI i))], [.int ((a 9) (nI i).toNatClampNeg)], (zw_M g gl a al))) rfl (pk_in i 6 (by omega) rfl (by omega)) ?_
    rw [pk_cl (x := nI i) i rfl (by omega)]
    rw [show (a 9) i = nI (x i) from hx i (by omega)]
    have hxi := hx4 i (by omega)
    refine zr_ine (x := nI (x i)) (y := 0) (x i) 0 rfl rfl (by omega) (by omega) (t := (20, [some (.ref 9), some (.int (nI i))], [], (zw_M g gl a al))) (f := (14, [some (.ref 9), some (.int (nI i))], [], (zw_M g gl a al))) rfl (fun h2 => ?_) (fun h2 => ?_)
    · skip
      refine zr_go (t := (23, [some (.ref 9), some (.int (nI i))], [.int 6, .int (nI i)], (zw_M g gl a al))) 2 rfl ?_
      refine zr_ige (x := nI i) (y := 6) i 6 rfl rfl (by omega) (by omega) (t := (32, [some (.ref 9), some (.int (nI i))], [], (zw_M g gl a al))) (f := (26, [some (.ref 9), some (.int (nI i))], [], (zw_M g gl a al))) rfl (fun h3 => ?_) (fun h3 => ?_)
      · skip
        exfalso; omega
      · skip
        refine zr_go (t := (28, [some (.ref 9), some (.int (nI i))], [.int (nI i), .ref 9], (zw_M g gl a al))) 2 rfl ?_
        refine zr_cd (t := (29, [some (.ref 9), some (.int (nI i))], [.int ((a 9) (nI i).toNatClampNeg)], (zw_M g gl a al))) rfl (pk_in i 6 (by omega) rfl (by omega)) ?_
        rw [pk_cl (x := nI i) i rfl (by omega)]
        rw [show (a 9) i = nI (x i) from hx i (by omega)]
        refine zr_go (t := (33, [some (.ref 9), some (.int (nI i))], [.int (nI (x i))], (zw_M g gl a al))) 1 rfl ?_
        exact zr_ret rfl trivial ⟨by rw [← hf, show 6 - i = (5 - i) + 1 by omega]; show _ = some (Value.int (nI (if x (5 - (5 - i)) = 0 then _ else x (5 - (5 - i))))); rw [show 5 - (5 - i) = i by omega, if_neg h2], rfl⟩
    · skip
      refine zr_go (t := (2, [some (.ref 9), some (.int ((nI i) + 1))], [], (zw_M g gl a al))) 2 rfl ?_
      rw [show (nI i) + 1 = nI (i + 1) from (zn_add rfl rfl)]
      exact ih (i + 1) ⟨by omega, by rw [← hf, show 6 - i = (5 - i) + 1 by omega]; show _ = (if x (5 - (5 - i)) = 0 then _ else _); rw [show 5 - (5 - i) = i by omega, if_pos h2, show 6 - (i + 1) = 5 - i by omega]⟩ (by omega)
theorem zs_M_firstOf_12 (g : Nat → Int32) (gl : Nat → Int64) (a : Nat → Nat → Int32) (al : Nat → Nat → Int64) (x : Nat → Nat) (hx : ∀ i, i < 6 → a 12 i = nI (x i)) (hx4 : ∀ i, i < 6 → x i ≤ 4) : zm_Ev zt_get 1 118 [.ref 12] (zw_M g gl a al) (fun v w => v = some (.int (nI (zv_ff x 6))) ∧ w = (zw_M g gl a al)) := by
  refine zr_ev zt_M_firstOf rfl rfl ?_
  show zm_Run zt_get 0 zt_M_firstOf (0, [some (.ref 12), none], [], (zw_M g gl a al)) _
  refine zr_go (t := (2, [some (.ref 12), some (.int 0)], [], (zw_M g gl a al))) 2 rfl ?_
  refine zr_loop (fun q : Nat => (2, [some (.ref 12), some (.int (nI q))], [], (zw_M g gl a al))) (fun q => q ≤ 6 ∧ zv_ff x (6 - q) = zv_ff x 6) (fun q => 6 - q) ?_ 0 ⟨by omega, rfl⟩
  rintro i ⟨hi, hf⟩ ih
  try dsimp only at *
  refine zr_go (t := (5, [some (.ref 12), some (.int (nI i))], [.int 6, .int (nI i)], (zw_M g gl a al))) 2 rfl ?_
  refine zr_ige (x := nI i) (y := 6) i 6 rfl rfl (by omega) (by omega) (t := (20, [some (.ref 12), some (.int (nI i))], [], (zw_M g gl a al))) (f := (8, [some (.ref 12), some (.int (nI i))], [], (zw_M g gl a al))) rfl (fun h1 => ?_) (fun h1 => ?_)
  · skip
    refine zr_go (t := (23, [some (.ref 12), some (.int (nI i))], [.int 6, .int (nI i)], (zw_M g gl a al))) 2 rfl ?_
    refine zr_ige (x := nI i) (y := 6) i 6 rfl rfl (by omega) (by omega) (t := (32, [some (.ref 12), some (.int (nI i))], [], (zw_M g gl a al))) (f := (26, [some (.ref 12), some (.int (nI i))], [], (zw_M g gl a al))) rfl (fun h2 => ?_) (fun h2 => ?_)
    · skip
      refine zr_go (t := (33, [some (.ref 12), some (.int (nI i))], [.int 0], (zw_M g gl a al))) 1 rfl ?_
      exact zr_ret rfl trivial ⟨by rw [← hf, show 6 - i = 0 by omega]; rfl, rfl⟩
    · skip
      exfalso; omega
  · skip
    refine zr_go (t := (10, [some (.ref 12), some (.int (nI i))], [.int (nI i), .ref 12], (zw_M g gl a al))) 2 rfl ?_
    refine zr_cd (t := (11, [some (.ref 12), some (.int (nI i))], [.int ((a 12) (nI i).toNatClampNeg)], (zw_M g gl a al))) rfl (pk_in i 6 (by omega) rfl (by omega)) ?_
    rw [pk_cl (x := nI i) i rfl (by omega)]
    rw [show (a 12) i = nI (x i) from hx i (by omega)]
    have hxi := hx4 i (by omega)
    refine zr_ine (x := nI (x i)) (y := 0) (x i) 0 rfl rfl (by omega) (by omega) (t := (20, [some (.ref 12), some (.int (nI i))], [], (zw_M g gl a al))) (f := (14, [some (.ref 12), some (.int (nI i))], [], (zw_M g gl a al))) rfl (fun h2 => ?_) (fun h2 => ?_)
    · skip
      refine zr_go (t := (23, [some (.ref 12), some (.int (nI i))], [.int 6, .int (nI i)], (zw_M g gl a al))) 2 rfl ?_
      refine zr_ige (x := nI i) (y := 6) i 6 rfl rfl (by omega) (by omega) (t := (32, [some (.ref 12), some (.int (nI i))], [], (zw_M g gl a al))) (f := (26, [some (.ref 12), some (.int (nI i))], [], (zw_M g gl a al))) rfl (fun h3 => ?_) (fun h3 => ?_)
      · skip
        exfalso; omega
      · skip
        refine zr_go (t := (28, [some (.ref 12), some (.int (nI i))], [.int (nI i), .ref 12], (zw_M g gl a al))) 2 rfl ?_
        refine zr_cd (t := (29, [some (.ref 12), some (.int (nI i))], [.int ((a 12) (nI i).toNatClampNeg)], (zw_M g gl a al))) rfl (pk_in i 6 (by omega) rfl (by omega)) ?_
        rw [pk_cl (x := nI i) i rfl (by omega)]
        rw [show (a 12) i = nI (x i) from hx i (by omega)]
        refine zr_go (t := (33, [some (.ref 12), some (.int (nI i))], [.int (nI (x i))], (zw_M g gl a al))) 1 rfl ?_
        exact zr_ret rfl trivial ⟨by rw [← hf, show 6 - i = (5 - i) + 1 by omega]; show _ = some (Value.int (nI (if x (5 - (5 - i)) = 0 then _ else x (5 - (5 - i))))); rw [show 5 - (5 - i) = i by omega, if_neg h2], rfl⟩
    · skip
      refine zr_go (t := (2, [some (.ref 12), some (.int ((nI i) + 1))], [], (zw_M g gl a al))) 2 rfl ?_
      rw [show (nI i) + 1 = nI (i + 1) from (zn_add rfl rfl)]
      exact ih (i + 1) ⟨by omega, by rw [← hf, show 6 - i = (5 - i) + 1 by omega]; show _ = (if x (5 - (5 - i)) = 0 then _ else _); rw [show 5 - (5 - i) = i by omega, if_pos h2, show 6 - (i + 1) = 5 - i by omega]⟩ (by omega)
theorem zs_M_take_9 (g : Nat → Int32) (gl : Nat → Int64) (a : Nat → Nat → Int32) (al : Nat → Nat → Int64) (p : Nat) (hp : p < 156) : zm_Ev zt_get 1 124 [.ref 0, .int (nI p), .ref 9] (zw_M g gl a al) (fun v w => v = none ∧ ∃ f, w = (zw_M g gl (va_up a 9 f) al) ∧ ∀ i, i < 6 → f i = a 3 (6 * p + i)) := by
  refine zr_ev zt_M_take rfl rfl ?_
  show zm_Run zt_get 0 zt_M_take (0, [some (.ref 0), some (.int (nI p)), some (.ref 9), none], [], (zw_M g gl a al)) _
  refine zr_go (t := (2, [some (.ref 0), some (.int (nI p)), some (.ref 9), some (.int 0)], [], (zw_M g gl a al))) 2 rfl ?_
  refine zr_loop (fun q : Nat × (Nat → Int32) => (2, [some (.ref 0), some (.int (nI p)), some (.ref 9), some (.int (nI q.1))], [], (zw_M g gl (va_up a 9 q.2) al))) (fun q => q.1 ≤ 6 ∧ ∀ k, k < q.1 → q.2 k = a 3 (6 * p + k)) (fun q => 6 - q.1) ?_ (0, a 9) ⟨by omega, fun k h => absurd h (Nat.not_lt_zero k)⟩
  rintro ⟨i, f⟩ ⟨hi, hf⟩ ih
  try dsimp only at *
  refine zr_go (t := (5, [some (.ref 0), some (.int (nI p)), some (.ref 9), some (.int (nI i))], [.int 6, .int (nI i)], (zw_M g gl (va_up a 9 f) al))) 2 rfl ?_
  refine zr_ige (x := nI i) (y := 6) i 6 rfl rfl (by omega) (by omega) (t := (28, [some (.ref 0), some (.int (nI p)), some (.ref 9), some (.int (nI i))], [], (zw_M g gl (va_up a 9 f) al))) (f := (8, [some (.ref 0), some (.int (nI p)), some (.ref 9), some (.int (nI i))], [], (zw_M g gl (va_up a 9 f) al))) rfl (fun h1 => ?_) (fun h1 => ?_)
  · skip
    exact zr_ret rfl trivial ⟨rfl, f, rfl, fun i hi => hf i (by omega)⟩
  · skip
    refine zr_go (t := (20, [some (.ref 0), some (.int (nI p)), some (.ref 9), some (.int (nI i))], [.int ((6 * (nI p)) + (nI i)), .ref 3, .int (nI i), .ref 9], (zw_M g gl (va_up a 9 f) al))) 9 rfl ?_
    refine zr_cd (t := (21, [some (.ref 0), some (.int (nI p)), some (.ref 9), some (.int (nI i))], [.int ((a 3) ((6 * (nI p)) + (nI i)).toNatClampNeg), .int (nI i), .ref 9], (zw_M g gl (va_up a 9 f) al))) rfl (pk_in ((6 * p) + i) 936 (by omega) (zn_add (zn_mul rfl rfl) rfl) (by omega)) ?_
    rw [pk_cl (x := (6 * (nI p)) + (nI i)) ((6 * p) + i) (zn_add (zn_mul rfl rfl) rfl) (by omega)]
    refine zr_cd (t := (22, [some (.ref 0), some (.int (nI p)), some (.ref 9), some (.int (nI i))], [], (zw_M g gl (va_up a 9 (upd f ((nI i).toNatClampNeg) ((a 3) ((6 * p) + i)))) al))) rfl (pk_in i 6 (by omega) rfl (by omega)) ?_
    rw [pk_cl (x := nI i) i rfl (by omega)]
    refine zr_go (t := (2, [some (.ref 0), some (.int (nI p)), some (.ref 9), some (.int ((nI i) + 1))], [], (zw_M g gl (va_up a 9 (upd f i ((a 3) ((6 * p) + i)))) al))) 2 rfl ?_
    rw [show (nI i) + 1 = nI (i + 1) from (zn_add rfl rfl)]
    exact ih (i + 1, (upd f i ((a 3) ((6 * p) + i)))) ⟨by omega, lt_s (fun k hk => (pk_un (Nat.ne_of_lt hk)).trans (hf k hk)) pk_us⟩ (by omega)
theorem zs_M_take_10 (g : Nat → Int32) (gl : Nat → Int64) (a : Nat → Nat → Int32) (al : Nat → Nat → Int64) (p : Nat) (hp : p < 156) : zm_Ev zt_get 1 124 [.ref 0, .int (nI p), .ref 10] (zw_M g gl a al) (fun v w => v = none ∧ ∃ f, w = (zw_M g gl (va_up a 10 f) al) ∧ ∀ i, i < 6 → f i = a 3 (6 * p + i)) := by
  refine zr_ev zt_M_take rfl rfl ?_
  show zm_Run zt_get 0 zt_M_take (0, [some (.ref 0), some (.int (nI p)), some (.ref 10), none], [], (zw_M g gl a al)) _
  refine zr_go (t := (2, [some (.ref 0), some (.int (nI p)), some (.ref 10), some (.int 0)], [], (zw_M g gl a al))) 2 rfl ?_
  refine zr_loop (fun q : Nat × (Nat → Int32) => (2, [some (.ref 0), some (.int (nI p)), some (.ref 10), some (.int (nI q.1))], [], (zw_M g gl (va_up a 10 q.2) al))) (fun q => q.1 ≤ 6 ∧ ∀ k, k < q.1 → q.2 k = a 3 (6 * p + k)) (fun q => 6 - q.1) ?_ (0, a 10) ⟨by omega, fun k h => absurd h (Nat.not_lt_zero k)⟩
  rintro ⟨i, f⟩ ⟨hi, hf⟩ ih
  try dsimp only at *
  refine zr_go (t := (5, [some (.ref 0), some (.int (nI p)), some (.ref 10), some (.int (nI i))], [.int 6, .int (nI i)], (zw_M g gl (va_up a 10 f) al))) 2 rfl ?_
  refine zr_ige (x := nI i) (y := 6) i 6 rfl rfl (by omega) (by omega) (t := (28, [some (.ref 0), some (.int (nI p)), some (.ref 10), some (.int (nI i))], [], (zw_M g gl (va_up a 10 f) al))) (f := (8, [some (.ref 0), some (.int (nI p)), some (.ref 10), some (.int (nI i))], [], (zw_M g gl (va_up a 10 f) al))) rfl (fun h1 => ?_) (fun h1 => ?_)
  · skip
    exact zr_ret rfl trivial ⟨rfl, f, rfl, fun i hi => hf i (by omega)⟩
  · skip
    refine zr_go (t := (20, [some (.ref 0), some (.int (nI p)), some (.ref 10), some (.int (nI i))], [.int ((6 * (nI p)) + (nI i)), .ref 3, .int (nI i), .ref 10], (zw_M g gl (va_up a 10 f) al))) 9 rfl ?_
    refine zr_cd (t := (21, [some (.ref 0), some (.int (nI p)), some (.ref 10), some (.int (nI i))], [.int ((a 3) ((6 * (nI p)) + (nI i)).toNatClampNeg), .int (nI i), .ref 10], (zw_M g gl (va_up a 10 f) al))) rfl (pk_in ((6 * p) + i) 936 (by omega) (zn_add (zn_mul rfl rfl) rfl) (by omega)) ?_
    rw [pk_cl (x := (6 * (nI p)) + (nI i)) ((6 * p) + i) (zn_add (zn_mul rfl rfl) rfl) (by omega)]
    refine zr_cd (t := (22, [some (.ref 0), some (.int (nI p)), some (.ref 10), some (.int (nI i))], [], (zw_M g gl (va_up a 10 (upd f ((nI i).toNatClampNeg) ((a 3) ((6 * p) + i)))) al))) rfl (pk_in i 6 (by omega) rfl (by omega)) ?_
    rw [pk_cl (x := nI i) i rfl (by omega)]
    refine zr_go (t := (2, [some (.ref 0), some (.int (nI p)), some (.ref 10), some (.int ((nI i) + 1))], [], (zw_M g gl (va_up a 10 (upd f i ((a 3) ((6 * p) + i)))) al))) 2 rfl ?_
    rw [show (nI i) + 1 = nI (i + 1) from (zn_add rfl rfl)]
    exact ih (i + 1, (upd f i ((a 3) ((6 * p) + i)))) ⟨by omega, lt_s (fun k hk => (pk_un (Nat.ne_of_lt hk)).trans (hf k hk)) pk_us⟩ (by omega)
theorem zs_M_valueAt (g : Nat → Int32) (gl : Nat → Int64) (a : Nat → Nat → Int32) (al : Nat → Nat → Int64) (P N : Nat) (c : Nat → Nat) (hF : zc_F g a P N c) (p : Nat) (hp : p < 156) (x : Nat → Nat) (hx : ∀ i, i < 6 → a 3 (6 * p + i) = nI (x i)) (hx4 : ∀ i, i < 6 → x i ≤ 4) : zm_Ev zt_get 2 125 [.ref 0, .int (nI p)] (zw_M g gl a al) (fun v w => v = some (.int (nI (zv_val P N c x))) ∧ ∃ f, w = (zw_M g gl (va_up a 9 f) al)) := by
  obtain ⟨hP, hN, hP0, hP5, hN6, hc, hc4⟩ := id hF
  refine zr_ev zt_M_valueAt rfl rfl ?_
  show zm_Run zt_get 1 zt_M_valueAt (0, [some (.ref 0), some (.int (nI p))], [], (zw_M g gl a al)) _
  refine zr_go (t := (6, [some (.ref 0), some (.int (nI p))], [.ref 9, .int (nI p), .ref 0], (zw_M g gl a al))) 4 rfl ?_
  refine zr_call (t := (9, [some (.ref 0), some (.int (nI p))], [], (zw_M g gl a al))) rfl (Nat.le_of_ble_eq_true rfl : 1 ≤ 1) (zs_M_take_9 g gl a al p hp) ?_
  rintro _ _ ⟨rfl, f, rfl, hf⟩
  show zm_Run zt_get 1 zt_M_valueAt (9, [some (.ref 0), some (.int (nI p))], [], (zw_M g gl (va_up a 9 f) al)) _
  refine zr_go (t := (14, [some (.ref 0), some (.int (nI p))], [.ref 9, .ref 0], (zw_M g gl (va_up a 9 f) al))) 3 rfl ?_
  refine zr_call (t := (17, [some (.ref 0), some (.int (nI p))], [], (zw_M g gl (va_up a 9 f) al))) rfl (Nat.le_of_ble_eq_true rfl : 1 ≤ 1) (zs_M_valueOf_9 g gl (va_up a 9 f) al P N c x hP hN hP0 hP5 hN6 hc (fun i hi => (hf i hi).trans (hx i hi)) hc4 hx4) ?_
  rintro _ _ ⟨rfl, rfl⟩
  show zm_Run zt_get 1 zt_M_valueAt (17, [some (.ref 0), some (.int (nI p))], [.int (nI (zv_val P N c x))], (zw_M g gl (va_up a 9 f) al)) _
  exact zr_ret rfl trivial ⟨rfl, f, rfl⟩
theorem zs_M_polarOf (g : Nat → Int32) (gl : Nat → Int64) (a : Nat → Nat → Int32) (al : Nat → Nat → Int64) (P N : Nat) (c : Nat → Nat) (hF : zc_F g a P N c) (x y : Nat → Nat) (hx : ∀ i, i < 6 → a 9 i = nI (x i)) (hx4 : ∀ i, i < 6 → x i ≤ 4) (hy : ∀ i, i < 6 → a 10 i = nI (y i)) (hy4 : ∀ i, i < 6 → y i ≤ 4) : zm_Ev zt_get 2 123 [.ref 0, .ref 9, .ref 10] (zw_M g gl a al) (fun v w => v = some (.int (nI (zv_pol P N c x y))) ∧ ∃ f, w = (zw_M g gl (va_up a 11 f) al)) := by
  obtain ⟨hP, hN, hP0, hP5, hN6, hc, hc4⟩ := id hF
  refine zr_ev zt_M_polarOf rfl rfl ?_
  show zm_Run zt_get 1 zt_M_polarOf (0, [some (.ref 0), some (.ref 9), some (.ref 10), none], [], (zw_M g gl a al)) _
  refine zr_go (t := (2, [some (.ref 0), some (.ref 9), some (.ref 10), some (.int 0)], [], (zw_M g gl a al))) 2 rfl ?_
  refine zr_loop (fun q : Nat × (Nat → Int32) => (2, [some (.ref 0), some (.ref 9), some (.ref 10), some (.int (nI q.1))], [], (zw_M g gl (va_up a 11 q.2) al))) (fun q => q.1 ≤ 6 ∧ ∀ k, k < q.1 → q.2 k = nI (zv_plus P x y k)) (fun q => 6 - q.1) ?_ (0, a 11) ⟨by omega, fun k h => absurd h (Nat.not_lt_zero k)⟩
  rintro ⟨i, f⟩ ⟨hi, hf⟩ ih
  try dsimp only at *
  refine zr_go (t := (5, [some (.ref 0), some (.ref 9), some (.ref 10), some (.int (nI i))], [.int 6, .int (nI i)], (zw_M g gl (va_up a 11 f) al))) 2 rfl ?_
  refine zr_ige (x := nI i) (y := 6) i 6 rfl rfl (by omega) (by omega) (t := (32, [some (.ref 0), some (.ref 9), some (.ref 10), some (.int (nI i))], [], (zw_M g gl (va_up a 11 f) al))) (f := (8, [some (.ref 0), some (.ref 9), some (.ref 10), some (.int (nI i))], [], (zw_M g gl (va_up a 11 f) al))) rfl (fun h1 => ?_) (fun h1 => ?_)
  · skip
    have e6 : i = 6 := by omega
    subst e6
    refine zr_go (t := (37, [some (.ref 0), some (.ref 9), some (.ref 10), some (.int (nI 6))], [.ref 11, .ref 0], (zw_M g gl (va_up a 11 f) al))) 3 rfl ?_
    refine zr_call (t := (40, [some (.ref 0), some (.ref 9), some (.ref 10), some (.int (nI 6))], [], (zw_M g gl (va_up a 11 f) al))) rfl (Nat.le_of_ble_eq_true rfl : 1 ≤ 1) (zs_M_valueOf_11 g gl (va_up a 11 f) al P N c (zv_plus P x y) hP hN hP0 hP5 hN6 hc hf hc4 (fun i hi => Nat.le_of_lt_succ (Nat.lt_of_lt_of_le (Nat.mod_lt _ hP0) hP5))) ?_
    rintro _ _ ⟨rfl, rfl⟩
    show zm_Run zt_get 1 zt_M_polarOf (40, [some (.ref 0), some (.ref 9), some (.ref 10), some (.int (nI 6))], [.int (nI (zv_val P N c (zv_plus P x y)))], (zw_M g gl (va_up a 11 f) al)) _
    refine zr_go (t := (42, [some (.ref 0), some (.ref 9), some (.ref 10), some (.int (nI 6))], [.ref 9, .ref 0, .int (nI (zv_val P N c (zv_plus P x y)))], (zw_M g gl (va_up a 11 f) al))) 2 rfl ?_
    refine zr_call (t := (45, [some (.ref 0), some (.ref 9), some (.ref 10), some (.int (nI 6))], [.int (nI (zv_val P N c (zv_plus P x y)))], (zw_M g gl (va_up a 11 f) al))) rfl (Nat.le_of_ble_eq_true rfl : 1 ≤ 1) (zs_M_valueOf_9 g gl (va_up a 11 f) al P N c x hP hN hP0 hP5 hN6 hc hx hc4 hx4) ?_
    rintro _ _ ⟨rfl, rfl⟩
    show zm_Run zt_get 1 zt_M_polarOf (45, [some (.ref 0), some (.ref 9), some (.ref 10), some (.int (nI 6))], [.int (nI (zv_val P N c x)), .int (nI (zv_val P N c (zv_plus P x y)))], (zw_M g gl (va_up a 11 f) al)) _
    refine zr_go (t := (48, [some (.ref 0), some (.ref 9), some (.ref 10), some (.int (nI 6))], [.ref 10, .ref 0, .int ((nI (zv_val P N c (zv_plus P x y))) - (nI (zv_val P N c x)))], (zw_M g gl (va_up a 11 f) al))) 3 rfl ?_
    refine zr_call (t := (51, [some (.ref 0), some (.ref 9), some (.ref 10), some (.int (nI 6))], [.int ((nI (zv_val P N c (zv_plus P x y))) - (nI (zv_val P N c x)))], (zw_M g gl (va_up a 11 f) al))) rfl (Nat.le_of_ble_eq_true rfl : 1 ≤ 1) (zs_M_valueOf_10 g gl (va_up a 11 f) al P N c y hP hN hP0 hP5 hN6 hc hy hc4 hy4) ?_
    rintro _ _ ⟨rfl, rfl⟩
    show zm_Run zt_get 1 zt_M_polarOf (51, [some (.ref 0), some (.ref 9), some (.ref 10), some (.int (nI 6))], [.int (nI (zv_val P N c y)), .int ((nI (zv_val P N c (zv_plus P x y))) - (nI (zv_val P N c x)))], (zw_M g gl (va_up a 11 f) al)) _
    refine zr_go (t := (56, [some (.ref 0), some (.ref 9), some (.ref 10), some (.int (nI 6))], [.int (g 0), .int (((nI (zv_val P N c (zv_plus P x y))) - (nI (zv_val P N c x))) - (nI (zv_val P N c y)))], (zw_M g gl (va_up a 11 f) al))) 3 rfl ?_
    refine zr_call (t := (59, [some (.ref 0), some (.ref 9), some (.ref 10), some (.int (nI 6))], [], (zw_M g gl (va_up a 11 f) al))) rfl (Nat.le_of_ble_eq_true rfl : 1 ≤ 1) (zs_M_mod g gl (va_up a 11 f) al (((nI (zv_val P N c (zv_plus P x y))) - (nI (zv_val P N c x))) - (nI (zv_val P N c y))) (g 0) (zn_ne0 hP hP0 (by omega))) ?_
    rintro _ _ ⟨rfl, rfl⟩
    show zm_Run zt_get 1 zt_M_polarOf (59, [some (.ref 0), some (.ref 9), some (.ref 10), some (.int (nI 6))], [.int (zv_mod (((nI (zv_val P N c (zv_plus P x y))) - (nI (zv_val P N c x))) - (nI (zv_val P N c y))) (g 0))], (zw_M g gl (va_up a 11 f) al)) _
    rw [show zv_mod (((nI (zv_val P N c (zv_plus P x y))) - (nI (zv_val P N c x))) - (nI (zv_val P N c y))) (g 0) = nI (zv_pol P N c x y) from by rw [hP]; exact zv_modp P (by omega) hP0 _ (zv_val_lt hP0) _ (zv_val_lt hP0) _ (zv_val_lt hP0)]
    exact zr_ret rfl trivial ⟨rfl, f, rfl⟩
  · skip
    have hxi := hx4 i (by omega)
    have hyi := hy4 i (by omega)
    refine zr_go (t := (15, [some (.ref 0), some (.ref 9), some (.ref 10), some (.int (nI i))], [.int (nI i), .ref 9, .int (nI i), .ref 11], (zw_M g gl (va_up a 11 f) al))) 5 rfl ?_
    refine zr_cd (t := (16, [some (.ref 0), some (.ref 9), some (.ref 10), some (.int (nI i))], [.int ((a 9) (nI i).toNatClampNeg), .int (nI i), .ref 11], (zw_M g gl (va_up a 11 f) al))) rfl (pk_in i 6 (by omega) rfl (by omega)) ?_
    rw [pk_cl (x := nI i) i rfl (by omega)]
    rw [show (a 9) i = nI (x i) from hx i (by omega)]
    refine zr_go (t := (18, [some (.ref 0), some (.ref 9), some (.ref 10), some (.int (nI i))], [.int (nI i), .ref 10, .int (nI (x i)), .int (nI i), .ref 11], (zw_M g gl (va_up a 11 f) al))) 2 rfl ?_
    refine zr_cd (t := (19, [some (.ref 0), some (.ref 9), some (.ref 10), some (.int (nI i))], [.int ((a 10) (nI i).toNatClampNeg), .int (nI (x i)), .int (nI i), .ref 11], (zw_M g gl (va_up a 11 f) al))) rfl (pk_in i 6 (by omega) rfl (by omega)) ?_
    rw [pk_cl (x := nI i) i rfl (by omega)]
    rw [show (a 10) i = nI (y i) from hy i (by omega)]
    refine zr_go (t := (24, [some (.ref 0), some (.ref 9), some (.ref 10), some (.int (nI i))], [.int (g 0), .int ((nI (x i)) + (nI (y i))), .int (nI i), .ref 11], (zw_M g gl (va_up a 11 f) al))) 3 rfl ?_
    refine zr_cd (t := (25, [some (.ref 0), some (.ref 9), some (.ref 10), some (.int (nI i))], [.int (((nI (x i)) + (nI (y i))) - ((nI (x i)) + (nI (y i))) / (g 0) * (g 0)), .int (nI i), .ref 11], (zw_M g gl (va_up a 11 f) al))) rfl (zn_ne0 hP (by omega) (by omega)) ?_
    rw [show ((nI (x i)) + (nI (y i))) - ((nI (x i)) + (nI (y i))) / (g 0) * (g 0) = nI (((x i) + (y i)) % P) from (zn_rem (zn_add rfl rfl) hP (by omega) (by omega) (by omega))]
    refine zr_cd (t := (26, [some (.ref 0), some (.ref 9), some (.ref 10), some (.int (nI i))], [], (zw_M g gl (va_up a 11 (upd f ((nI i).toNatClampNeg) (nI (((x i) + (y i)) % P)))) al))) rfl (pk_in i 6 (by omega) rfl (by omega)) ?_
    rw [pk_cl (x := nI i) i rfl (by omega)]
    refine zr_go (t := (2, [some (.ref 0), some (.ref 9), some (.ref 10), some (.int ((nI i) + 1))], [], (zw_M g gl (va_up a 11 (upd f i (nI (((x i) + (y i)) % P)))) al))) 2 rfl ?_
    rw [show (nI i) + 1 = nI (i + 1) from (zn_add rfl rfl)]
    exact ih (i + 1, (upd f i (nI (((x i) + (y i)) % P)))) ⟨by omega, lt_s (fun k hk => (pk_un (Nat.ne_of_lt hk)).trans (hf k hk)) pk_us⟩ (by omega)
theorem zs_M_polarAt (g : Nat → Int32) (gl : Nat → Int64) (a : Nat → Nat → Int32) (al : Nat → Nat → Int64) (P N : Nat) (c : Nat → Nat) (hF : zc_F g a P N c) (p q : Nat) (hp : p < 156) (hq : q < 156) (x y : Nat → Nat) (hx : ∀ i, i < 6 → a 3 (6 * p + i) = nI (x i)) (hx4 : ∀ i, i < 6 → x i ≤ 4) (hy : ∀ i, i < 6 → a 3 (6 * q + i) = nI (y i)) (hy4 : ∀ i, i < 6 → y i ≤ 4) : zm_Ev zt_get 3 126 [.ref 0, .int (nI p), .int (nI q)] (zw_M g gl a al) (fun v w => v = some (.int (nI (zv_pol P N c x y))) ∧ ∃ f1 f2 f3, w = (zw_M g gl (va_up (va_up (va_up a 9 f1) 10 f2) 11 f3) al)) := by
  obtain ⟨hP, hN, hP0, hP5, hN6, hc, hc4⟩ := id hF
  refine zr_ev zt_M_polarAt rfl rfl ?_
  show zm_Run zt_get 2 zt_M_polarAt (0, [some (.ref 0), some (.int (nI p)), some (.int (nI q))], [], (zw_M g gl a al)) _
  refine zr_go (t := (6, [some (.ref 0), some (.int (nI p)), some (.int (nI q))], [.ref 9, .int (nI p), .ref 0], (zw_M g gl a al))) 4 rfl ?_
  refine zr_call (t := (9, [some (.ref 0), some (.int (nI p)), some (.int (nI q))], [], (zw_M g gl a al))) rfl (Nat.le_of_ble_eq_true rfl : 1 ≤ 2) (zs_M_take_9 g gl a al p hp) ?_
  rintro _ _ ⟨rfl, f1, rfl, hf1⟩
  show zm_Run zt_get 2 zt_M_polarAt (9, [some (.ref 0), some (.int (nI p)), some (.int (nI q))], [], (zw_M g gl (va_up a 9 f1) al)) _
  refine zr_go (t := (15, [some (.ref 0), some (.int (nI p)), some (.int (nI q))], [.ref 10, .int (nI q), .ref 0], (zw_M g gl (va_up a 9 f1) al))) 4 rfl ?_
  refine zr_call (t := (18, [some (.ref 0), some (.int (nI p)), some (.int (nI q))], [], (zw_M g gl (va_up a 9 f1) al))) rfl (Nat.le_of_ble_eq_true rfl : 1 ≤ 2) (zs_M_take_10 g gl (va_up a 9 f1) al q hq) ?_
  rintro _ _ ⟨rfl, f2, rfl, hf2⟩
  show zm_Run zt_get 2 zt_M_polarAt (18, [some (.ref 0), some (.int (nI p)), some (.int (nI q))], [], (zw_M g gl (va_up (va_up a 9 f1) 10 f2) al)) _
  refine zr_go (t := (27, [some (.ref 0), some (.int (nI p)), some (.int (nI q))], [.ref 10, .ref 9, .ref 0], (zw_M g gl (va_up (va_up a 9 f1) 10 f2) al))) 5 rfl ?_
  refine zr_call (t := (30, [some (.ref 0), some (.int (nI p)), some (.int (nI q))], [], (zw_M g gl (va_up (va_up a 9 f1) 10 f2) al))) rfl (Nat.le_of_ble_eq_true rfl : 2 ≤ 2) (zs_M_polarOf g gl (va_up (va_up a 9 f1) 10 f2) al P N c hF x y (fun i hi => (hf1 i hi).trans (hx i hi)) hx4 (fun i hi => (hf2 i hi).trans (hy i hi)) hy4) ?_
  rintro _ _ ⟨rfl, f3, rfl⟩
  show zm_Run zt_get 2 zt_M_polarAt (30, [some (.ref 0), some (.int (nI p)), some (.int (nI q))], [.int (nI (zv_pol P N c x y))], (zw_M g gl (va_up (va_up (va_up a 9 f1) 10 f2) 11 f3) al)) _
  exact zr_ret rfl trivial ⟨rfl, f1, f2, f3, rfl⟩
end
section
/-! the reference: singular points, sections (written by wip/whole/gen_m3.py) -/
theorem zb_eq0 {n : Nat} (h : n = 0) : (n == 0) = true := by simp [h]
theorem zb_ne0 {n : Nat} (h : n ≠ 0) : (n == 0) = false := by simp [h]
def zv_isS (P N : Nat) (c : Nat → Nat) (np : Nat) (y : Nat → Nat → Nat) (o : Nat → Bool) (p : Nat) : Bool := o p && zA (fun k => zv_pol P N c (y p) (y k) == 0) np
def zv_dot (N : Nat) (x y : Nat → Nat) : Nat := zS (fun i => x i * y i) N
theorem zv_dot_le {N : Nat} {x y : Nat → Nat} (hN : N ≤ 6) (hx : ∀ i, i < 6 → x i ≤ 4) (hy : ∀ i, i < 6 → y i ≤ 4) : zv_dot N x y ≤ 96 :=
  Nat.le_trans (zS_le (B := 16) N (fun k hk => Nat.mul_le_mul (hx k (by omega)) (hy k (by omega)))) (Nat.le_trans (Nat.mul_le_mul_right _ hN) (by decide))
theorem zv_pol_lt {P N : Nat} {c x y : Nat → Nat} (h : 0 < P) : zv_pol P N c x y < P := Nat.mod_lt _ h
theorem zs_M_isSingular (g : Nat → Int32) (gl : Nat → Int64) (a : Nat → Nat → Int32) (al : Nat → Nat → Int64) (P N : Nat) (c : Nat → Nat) (hF : zc_F g a P N c) (np : Nat) (y : Nat → Nat → Nat) (hR : zc_R g a np y) (o : Nat → Bool) (hO : zc_O a np o) (p : Nat) (hp : p < np) : zm_Ev zt_get 4 129 [.ref 0, .int (nI p)] (zw_M g gl a al) (fun v w => v = some (.int (nI (zv_isS P N c np y o p).toNat)) ∧ ∃ f1 f2 f3, w = (zw_M g gl (va_up (va_up (va_up a 9 f1) 10 f2) 11 f3) al)) := by
  obtain ⟨hP, hN, hP0, hP5, hN6, hc, hc4⟩ := id hF
  obtain ⟨hnp, hnp1, hy, hy4⟩ := id hR
  refine zr_ev zt_M_isSingular rfl rfl ?_
  show zm_Run zt_get 3 zt_M_isSingular (0, [some (.ref 0), some (.int (nI p)), none, none], [], (zw_M g gl a al)) _
  refine zr_go (t := (5, [some (.ref 0), some (.int (nI p)), none, none], [.int (nI p), .ref 5], (zw_M g gl a al))) 3 rfl ?_
  refine zr_cd (t := (6, [some (.ref 0), some (.int (nI p)), none, none], [.int ((a 5) (nI p).toNatClampNeg)], (zw_M g gl a al))) rfl (pk_in p 156 (by omega) rfl (by omega)) ?_
  rw [pk_cl (x := nI p) p rfl (by omega)]
  rw [show (a 5) p = nI ((o p).toNat) from hO p (by omega)]
  refine zr_go (t := (9, [some (.ref 0), some (.int (nI p)), some (.int (nI ((o p).toNat))), some (.int 0)], [], (zw_M g gl a al))) 3 rfl ?_
  refine zr_loop (fun q : Nat × Bool × (Nat → Int32) × (Nat → Int32) × (Nat → Int32) => (9, [some (.ref 0), some (.int (nI p)), some (.int (nI q.2.1.toNat)), some (.int (nI q.1))], [], (zw_M g gl (va_up (va_up (va_up a 9 q.2.2.1) 10 q.2.2.2.1) 11 q.2.2.2.2) al))) (fun q => q.1 ≤ np ∧ q.2.1 = (o p && zA (fun t => zv_pol P N c (y p) (y t) == 0) q.1)) (fun q => np - q.1) ?_ (0, o p, a 9, a 10, a 11) ⟨by omega, by simp [zA]⟩
  rintro ⟨k, b, f1, f2, f3⟩ ⟨hk, hb⟩ ih
  try dsimp only at *
  refine zr_go (t := (14, [some (.ref 0), some (.int (nI p)), some (.int (nI b.toNat)), some (.int (nI k))], [.int (g 6), .int (nI k)], (zw_M g gl (va_up (va_up (va_up a 9 f1) 10 f2) 11 f3) al))) 3 rfl ?_
  refine zr_ige (x := nI k) (y := g 6) k np rfl hnp (by omega) (by omega) (t := (42, [some (.ref 0), some (.int (nI p)), some (.int (nI b.toNat)), some (.int (nI k))], [], (zw_M g gl (va_up (va_up (va_up a 9 f1) 10 f2) 11 f3) al))) (f := (17, [some (.ref 0), some (.int (nI p)), some (.int (nI b.toNat)), some (.int (nI k))], [], (zw_M g gl (va_up (va_up (va_up a 9 f1) 10 f2) 11 f3) al))) rfl (fun h1 => ?_) (fun h1 => ?_)
  · skip
    refine zr_go (t := (43, [some (.ref 0), some (.int (nI p)), some (.int (nI b.toNat)), some (.int (nI k))], [.int (nI b.toNat)], (zw_M g gl (va_up (va_up (va_up a 9 f1) 10 f2) 11 f3) al))) 1 rfl ?_
    exact zr_ret rfl (zb_ok b) ⟨by rw [hb, show k = np by omega]; rfl, f1, f2, f3, rfl⟩
  · skip
    refine zr_go (t := (18, [some (.ref 0), some (.int (nI p)), some (.int (nI b.toNat)), some (.int (nI k))], [.int (nI b.toNat)], (zw_M g gl (va_up (va_up (va_up a 9 f1) 10 f2) 11 f3) al))) 1 rfl ?_
    have hb1 := zb_le b
    refine zr_ieq (x := nI b.toNat) (y := 0) b.toNat 0 rfl rfl (by omega) (by omega) (t := (42, [some (.ref 0), some (.int (nI p)), some (.int (nI b.toNat)), some (.int (nI k))], [], (zw_M g gl (va_up (va_up (va_up a 9 f1) 10 f2) 11 f3) al))) (f := (21, [some (.ref 0), some (.int (nI p)), some (.int (nI b.toNat)), some (.int (nI k))], [], (zw_M g gl (va_up (va_up (va_up a 9 f1) 10 f2) 11 f3) al))) rfl (fun h2 => ?_) (fun h2 => ?_)
    · skip
      refine zr_go (t := (43, [some (.ref 0), some (.int (nI p)), some (.int (nI b.toNat)), some (.int (nI k))], [.int (nI b.toNat)], (zw_M g gl (va_up (va_up (va_up a 9 f1) 10 f2) 11 f3) al))) 1 rfl ?_
      have e0 := zb_0 h2
      exact zr_ret rfl (zb_ok b) ⟨by rw [e0] at hb ⊢; rw [show zv_isS P N c np y o p = false from (Bool.and_eq_false_iff.mp hb.symm).elim (fun e => by unfold zv_isS; rw [e]; rfl) (fun e => by unfold zv_isS; rw [zA_no e hk, Bool.and_false])], f1, f2, f3, rfl⟩
    · skip
      refine zr_go (t := (24, [some (.ref 0), some (.int (nI p)), some (.int (nI b.toNat)), some (.int (nI k))], [.int (nI k), .int (nI p), .ref 0], (zw_M g gl (va_up (va_up (va_up a 9 f1) 10 f2) 11 f3) al))) 3 rfl ?_
      refine zr_call (t := (27, [some (.ref 0), some (.int (nI p)), some (.int (nI b.toNat)), some (.int (nI k))], [], (zw_M g gl (va_up (va_up (va_up a 9 f1) 10 f2) 11 f3) al))) rfl (Nat.le_of_ble_eq_true rfl : 3 ≤ 3) (zs_M_polarAt g gl (va_up (va_up (va_up a 9 f1) 10 f2) 11 f3) al P N c hF p k (by omega) (by omega) (y p) (y k) (fun i hi => hy p i (by omega) hi) (fun i hi => hy4 p i (by omega) hi) (fun i hi => hy k i (by omega) hi) (fun i hi => hy4 k i (by omega) hi)) ?_
      rintro _ _ ⟨rfl, e1, e2, e3, rfl⟩
      show zm_Run zt_get 3 zt_M_isSingular (27, [some (.ref 0), some (.int (nI p)), some (.int (nI b.toNat)), some (.int (nI k))], [.int (nI (zv_pol P N c (y p) (y k)))], (zw_M g gl (va_up (va_up (va_up a 9 e1) 10 e2) 11 e3) al)) _
      have hpl := zv_pol_lt (N := N) (c := c) (x := y p) (y := y k) hP0
      have hbt := zb_1 h2
      refine zr_ine (x := nI (zv_pol P N c (y p) (y k))) (y := 0) (zv_pol P N c (y p) (y k)) 0 rfl rfl (by omega) (by omega) (t := (34, [some (.ref 0), some (.int (nI p)), some (.int (nI b.toNat)), some (.int (nI k))], [], (zw_M g gl (va_up (va_up (va_up a 9 e1) 10 e2) 11 e3) al))) (f := (30, [some (.ref 0), some (.int (nI p)), some (.int (nI b.toNat)), some (.int (nI k))], [], (zw_M g gl (va_up (va_up (va_up a 9 e1) 10 e2) 11 e3) al))) rfl (fun h3 => ?_) (fun h3 => ?_)
      · skip
        refine zr_go (t := (9, [some (.ref 0), some (.int (nI p)), some (.int 0), some (.int ((nI k) + 1))], [], (zw_M g gl (va_up (va_up (va_up a 9 e1) 10 e2) 11 e3) al))) 4 rfl ?_
        rw [show (0 : Int32) = nI (false).toNat from rfl]
        rw [show (nI k) + 1 = nI (k + 1) from (zn_add rfl rfl)]
        exact ih (k + 1, false, e1, e2, e3) ⟨by omega, by rw [hbt] at hb; show false = (o p && (zA _ k && _)); rw [← Bool.and_assoc, ← hb]; simp [h3]⟩ (by omega)
      · skip
        refine zr_go (t := (9, [some (.ref 0), some (.int (nI p)), some (.int 1), some (.int ((nI k) + 1))], [], (zw_M g gl (va_up (va_up (va_up a 9 e1) 10 e2) 11 e3) al))) 5 rfl ?_
        rw [show some (Value.int 1) = some (Value.int (nI (true).toNat)) from rfl]
        rw [show (nI k) + 1 = nI (k + 1) from (zn_add rfl rfl)]
        exact ih (k + 1, true, e1, e2, e3) ⟨by omega, by rw [hbt] at hb; show true = (o p && (zA _ k && _)); rw [← Bool.and_assoc, ← hb]; simp [h3]⟩ (by omega)
theorem zs_M_isInSection (g : Nat → Int32) (gl : Nat → Int64) (a : Nat → Nat → Int32) (al : Nat → Nat → Int64) (P N : Nat) (c : Nat → Nat) (hF : zc_F g a P N c) (np : Nat) (y : Nat → Nat → Nat) (hR : zc_R g a np y) (h p : Nat) (hh : h < np) (hp : p < np) : zm_Ev zt_get 1 166 [.ref 0, .int (nI h), .int (nI p)] (zw_M g gl a al) (fun v w => v = some (.int (nI (zv_dot N (y h) (y p) % P == 0).toNat)) ∧ w = (zw_M g gl a al)) := by
  obtain ⟨hP, hN, hP0, hP5, hN6, hc, hc4⟩ := id hF
  obtain ⟨hnp, hnp1, hy, hy4⟩ := id hR
  refine zr_ev zt_M_isInSection rfl rfl ?_
  show zm_Run zt_get 0 zt_M_isInSection (0, [some (.ref 0), some (.int (nI h)), some (.int (nI p)), none, none], [], (zw_M g gl a al)) _
  refine zr_go (t := (5, [some (.ref 0), some (.int (nI h)), some (.int (nI p)), some (.int 0), some (.int 0)], [], (zw_M g gl a al))) 4 rfl ?_
  refine zr_loop (fun q : Nat × Nat => (5, [some (.ref 0), some (.int (nI h)), some (.int (nI p)), some (.int (nI q.2)), some (.int (nI q.1))], [], (zw_M g gl a al))) (fun q => q.1 ≤ N ∧ q.2 = zv_dot q.1 (y h) (y p)) (fun q => N - q.1) ?_ (0, 0) ⟨by omega, rfl⟩
  rintro ⟨i, S⟩ ⟨hi, hS⟩ ih
  try dsimp only at *
  refine zr_go (t := (11, [some (.ref 0), some (.int (nI h)), some (.int (nI p)), some (.int (nI S)), some (.int (nI i))], [.int (g 1), .int (nI i)], (zw_M g gl a al))) 3 rfl ?_
  refine zr_ige (x := nI i) (y := g 1) i N rfl hN (by omega) (by omega) (t := (48, [some (.ref 0), some (.int (nI h)), some (.int (nI p)), some (.int (nI S)), some (.int (nI i))], [], (zw_M g gl a al))) (f := (14, [some (.ref 0), some (.int (nI h)), some (.int (nI p)), some (.int (nI S)), some (.int (nI i))], [], (zw_M g gl a al))) rfl (fun h1 => ?_) (fun h1 => ?_)
  · skip
    have hS2 := zv_dot_le (N := N) hN6 (hy4 h · hh) (hy4 p · hp)
    have e6 : i = N := by omega
    subst e6
    rw [← hS] at hS2
    refine zr_go (t := (53, [some (.ref 0), some (.int (nI h)), some (.int (nI p)), some (.int (nI S)), some (.int (nI i))], [.int (g 0), .int (nI S)], (zw_M g gl a al))) 3 rfl ?_
    refine zr_cd (t := (54, [some (.ref 0), some (.int (nI h)), some (.int (nI p)), some (.int (nI S)), some (.int (nI i))], [.int ((nI S) - (nI S) / (g 0) * (g 0))], (zw_M g gl a al))) rfl (zn_ne0 hP (by omega) (by omega)) ?_
    rw [show (nI S) - (nI S) / (g 0) * (g 0) = nI (S % P) from (zn_rem rfl hP (by omega) (by omega) (by omega))]
    have hm : S % P < P := Nat.mod_lt _ hP0
    refine zr_ine (x := nI (S % P)) (y := 0) (S % P) 0 rfl rfl (by omega) (by omega) (t := (61, [some (.ref 0), some (.int (nI h)), some (.int (nI p)), some (.int (nI S)), some (.int (nI i))], [], (zw_M g gl a al))) (f := (57, [some (.ref 0), some (.int (nI h)), some (.int (nI p)), some (.int (nI S)), some (.int (nI i))], [], (zw_M g gl a al))) rfl (fun h2 => ?_) (fun h2 => ?_)
    · skip
      refine zr_go (t := (62, [some (.ref 0), some (.int (nI h)), some (.int (nI p)), some (.int (nI S)), some (.int (nI i))], [.int 0], (zw_M g gl a al))) 1 rfl ?_
      exact zr_ret rfl (Or.inl rfl) ⟨by rw [← hS, zb_ne0 h2]; rfl, rfl⟩
    · skip
      refine zr_go (t := (62, [some (.ref 0), some (.int (nI h)), some (.int (nI p)), some (.int (nI S)), some (.int (nI i))], [.int 1], (zw_M g gl a al))) 2 rfl ?_
      exact zr_ret rfl (Or.inr rfl) ⟨by rw [← hS, zb_eq0 h2]; rfl, rfl⟩
  · skip
    refine zr_go (t := (26, [some (.ref 0), some (.int (nI h)), some (.int (nI p)), some (.int (nI S)), some (.int (nI i))], [.int ((6 * (nI h)) + (nI i)), .ref 3, .int (nI S)], (zw_M g gl a al))) 8 rfl ?_
    refine zr_cd (t := (27, [some (.ref 0), some (.int (nI h)), some (.int (nI p)), some (.int (nI S)), some (.int (nI i))], [.int ((a 3) ((6 * (nI h)) + (nI i)).toNatClampNeg), .int (nI S)], (zw_M g gl a al))) rfl (pk_in ((6 * h) + i) 936 (by omega) (zn_add (zn_mul rfl rfl) rfl) (by omega)) ?_
    rw [pk_cl (x := (6 * (nI h)) + (nI i)) ((6 * h) + i) (zn_add (zn_mul rfl rfl) rfl) (by omega)]
    rw [show (a 3) ((6 * h) + i) = nI (y h i) from hy h i hh (by omega)]
    refine zr_go (t := (38, [some (.ref 0), some (.int (nI h)), some (.int (nI p)), some (.int (nI S)), some (.int (nI i))], [.int ((6 * (nI p)) + (nI i)), .ref 3, .int (nI (y h i)), .int (nI S)], (zw_M g gl a al))) 7 rfl ?_
    refine zr_cd (t := (39, [some (.ref 0), some (.int (nI h)), some (.int (nI p)), some (.int (nI S)), some (.int (nI i))], [.int ((a 3) ((6 * (nI p)) + (nI i)).toNatClampNeg), .int (nI (y h i)), .int (nI S)], (zw_M g gl a al))) rfl (pk_in ((6 * p) + i) 936 (by omega) (zn_add (zn_mul rfl rfl) rfl) (by omega)) ?_
    rw [pk_cl (x := (6 * (nI p)) + (nI i)) ((6 * p) + i) (zn_add (zn_mul rfl rfl) rfl) (by omega)]
    rw [show (a 3) ((6 * p) + i) = nI (y p i) from hy p i hp (by omega)]
    refine zr_go (t := (5, [some (.ref 0), some (.int (nI h)), some (.int (nI p)), some (.int ((nI S) + ((nI (y h i)) * (nI (y p i))))), some (.int ((nI i) + 1))], [], (zw_M g gl a al))) 5 rfl ?_
    rw [show (nI i) + 1 = nI (i + 1) from (zn_add rfl rfl)]
    rw [show (nI S) + ((nI (y h i)) * (nI (y p i))) = nI (S + ((y h i) * (y p i))) from (zn_add rfl (zn_mul rfl rfl))]
    exact ih (i + 1, S + y h i * y p i) ⟨by omega, by rw [hS]; rfl⟩ (by omega)
/-- how many of the first n -/
def zC (f : Nat → Bool) : Nat → Nat
  | 0 => 0
  | n + 1 => zC f n + (f n).toNat
theorem zC_le (f : Nat → Bool) (n : Nat) : zC f n ≤ n := by
  induction n with
  | zero => exact Nat.le_refl _
  | succ n ih => have := zb_le (f n); show zC f n + _ ≤ _; omega
theorem zC_mono (f : Nat → Bool) {k n : Nat} (h : k ≤ n) : zC f k ≤ zC f n := by
  induction h with
  | refl => exact Nat.le_refl _
  | step _ ih => exact Nat.le_trans ih (Nat.le_add_right _ _)
theorem zs_M_sectionOn (g : Nat → Int32) (gl : Nat → Int64) (a : Nat → Nat → Int32) (al : Nat → Nat → Int64) (P N : Nat) (c : Nat → Nat) (hF : zc_F g a P N c) (np : Nat) (y : Nat → Nat → Nat) (hR : zc_R g a np y) (o : Nat → Bool) (hO : zc_O a np o) (h : Nat) (hh : h < np) : zm_Ev zt_get 2 167 [.ref 0, .int (nI h)] (zw_M g gl a al) (fun v w => v = some (.int (nI (zC (fun k => o k && zv_dot N (y h) (y k) % P == 0) np))) ∧ w = (zw_M g gl a al)) := by
  obtain ⟨hP, hN, hP0, hP5, hN6, hc, hc4⟩ := id hF
  obtain ⟨hnp, hnp1, hy, hy4⟩ := id hR
  refine zr_ev zt_M_sectionOn rfl rfl ?_
  show zm_Run zt_get 1 zt_M_sectionOn (0, [some (.ref 0), some (.int (nI h)), none, none], [], (zw_M g gl a al)) _
  refine zr_go (t := (4, [some (.ref 0), some (.int (nI h)), some (.int 0), some (.int 0)], [], (zw_M g gl a al))) 4 rfl ?_
  refine zr_loop (fun q : Nat × Nat => (4, [some (.ref 0), some (.int (nI h)), some (.int (nI q.2)), some (.int (nI q.1))], [], (zw_M g gl a al))) (fun q => q.1 ≤ np ∧ q.2 = zC (fun t => o t && zv_dot N (y h) (y t) % P == 0) q.1) (fun q => np - q.1) ?_ (0, 0) ⟨by omega, rfl⟩
  rintro ⟨k, S⟩ ⟨hk, hS⟩ ih
  try dsimp only at *
  refine zr_go (t := (9, [some (.ref 0), some (.int (nI h)), some (.int (nI S)), some (.int (nI k))], [.int (g 6), .int (nI k)], (zw_M g gl a al))) 3 rfl ?_
  refine zr_ige (x := nI k) (y := g 6) k np rfl hnp (by omega) (by omega) (t := (44, [some (.ref 0), some (.int (nI h)), some (.int (nI S)), some (.int (nI k))], [], (zw_M g gl a al))) (f := (12, [some (.ref 0), some (.int (nI h)), some (.int (nI S)), some (.int (nI k))], [], (zw_M g gl a al))) rfl (fun h1 => ?_) (fun h1 => ?_)
  · skip
    refine zr_go (t := (45, [some (.ref 0), some (.int (nI h)), some (.int (nI S)), some (.int (nI k))], [.int (nI S)], (zw_M g gl a al))) 1 rfl ?_
    exact zr_ret rfl trivial ⟨by rw [hS, show k = np by omega], rfl⟩
  · skip
    refine zr_go (t := (18, [some (.ref 0), some (.int (nI h)), some (.int (nI S)), some (.int (nI k))], [.int (nI k), .ref 5, .int (nI S)], (zw_M g gl a al))) 4 rfl ?_
    refine zr_cd (t := (19, [some (.ref 0), some (.int (nI h)), some (.int (nI S)), some (.int (nI k))], [.int ((a 5) (nI k).toNatClampNeg), .int (nI S)], (zw_M g gl a al))) rfl (pk_in k 156 (by omega) rfl (by omega)) ?_
    rw [pk_cl (x := nI k) k rfl (by omega)]
    rw [show (a 5) k = nI ((o k).toNat) from hO k (by omega)]
    have ho1 := zb_le (o k)
    refine zr_ieq (x := nI ((o k).toNat)) (y := 0) ((o k).toNat) 0 rfl rfl (by omega) (by omega) (t := (35, [some (.ref 0), some (.int (nI h)), some (.int (nI S)), some (.int (nI k))], [.int (nI S)], (zw_M g gl a al))) (f := (22, [some (.ref 0), some (.int (nI h)), some (.int (nI S)), some (.int (nI k))], [.int (nI S)], (zw_M g gl a al))) rfl (fun h2 => ?_) (fun h2 => ?_)
    · skip
      refine zr_go (t := (4, [some (.ref 0), some (.int (nI h)), some (.int ((nI S) + 0)), some (.int ((nI k) + 1))], [], (zw_M g gl a al))) 5 rfl ?_
      rw [show (nI k) + 1 = nI (k + 1) from (zn_add rfl rfl)]
      rw [show (nI S) + 0 = nI (S + 0) from (zn_add rfl rfl)]
      exact ih (k + 1, S + 0) ⟨by omega, by rw [hS]; show _ = _ + _; simp [zb_0 h2]⟩ (by omega)
    · skip
      refine zr_go (t := (25, [some (.ref 0), some (.int (nI h)), some (.int (nI S)), some (.int (nI k))], [.int (nI k), .int (nI h), .ref 0, .int (nI S)], (zw_M g gl a al))) 3 rfl ?_
      refine zr_call (t := (28, [some (.ref 0), some (.int (nI h)), some (.int (nI S)), some (.int (nI k))], [.int (nI S)], (zw_M g gl a al))) rfl (Nat.le_of_ble_eq_true rfl : 1 ≤ 1) (zs_M_isInSection g gl a al P N c hF np y hR h k hh (by omega)) ?_
      rintro _ _ ⟨rfl, rfl⟩
      show zm_Run zt_get 1 zt_M_sectionOn (28, [some (.ref 0), some (.int (nI h)), some (.int (nI S)), some (.int (nI k))], [.int (nI ((zv_dot N (y h) (y k) % P == 0).toNat)), .int (nI S)], (zw_M g gl a al)) _
      have hd1 := zb_le (zv_dot N (y h) (y k) % P == 0)
      refine zr_ieq (x := nI ((zv_dot N (y h) (y k) % P == 0).toNat)) (y := 0) ((zv_dot N (y h) (y k) % P == 0).toNat) 0 rfl rfl (by omega) (by omega) (t := (35, [some (.ref 0), some (.int (nI h)), some (.int (nI S)), some (.int (nI k))], [.int (nI S)], (zw_M g gl a al))) (f := (31, [some (.ref 0), some (.int (nI h)), some (.int (nI S)), some (.int (nI k))], [.int (nI S)], (zw_M g gl a al))) rfl (fun h3 => ?_) (fun h3 => ?_)
      · skip
        refine zr_go (t := (4, [some (.ref 0), some (.int (nI h)), some (.int ((nI S) + 0)), some (.int ((nI k) + 1))], [], (zw_M g gl a al))) 5 rfl ?_
        rw [show (nI k) + 1 = nI (k + 1) from (zn_add rfl rfl)]
        rw [show (nI S) + 0 = nI (S + 0) from (zn_add rfl rfl)]
        exact ih (k + 1, S + 0) ⟨by omega, by rw [hS]; show _ = _ + _; have := zb_0 h3; simp_all⟩ (by omega)
      · skip
        refine zr_go (t := (4, [some (.ref 0), some (.int (nI h)), some (.int ((nI S) + 1)), some (.int ((nI k) + 1))], [], (zw_M g gl a al))) 6 rfl ?_
        rw [show (nI k) + 1 = nI (k + 1) from (zn_add rfl rfl)]
        rw [show (nI S) + 1 = nI (S + 1) from (zn_add rfl rfl)]
        exact ih (k + 1, S + 1) ⟨by omega, by rw [hS]; show _ = _ + _; have := zb_1 h3; have := zb_1 h2; simp_all⟩ (by omega)
def zv_tch (P N : Nat) (c : Nat → Nat) (np : Nat) (y : Nat → Nat → Nat) (o : Nat → Bool) (h p : Nat) : Bool := (o p && !zv_isS P N c np y o p) && zA (fun k => (zv_dot N (y h) (y k) % P == 0) == (zv_pol P N c (y p) (y k) == 0)) np
theorem zs_M_isTouched (g : Nat → Int32) (gl : Nat → Int64) (a : Nat → Nat → Int32) (al : Nat → Nat → Int64) (P N : Nat) (c : Nat → Nat) (hF : zc_F g a P N c) (np : Nat) (y : Nat → Nat → Nat) (hR : zc_R g a np y) (o : Nat → Bool) (hO : zc_O a np o) (h p : Nat) (hh : h < np) (hp : p < np) : zm_Ev zt_get 5 168 [.ref 0, .int (nI h), .int (nI p)] (zw_M g gl a al) (fun v w => v = some (.int (nI (zv_tch P N c np y o h p).toNat)) ∧ ∃ f1 f2 f3, w = (zw_M g gl (va_up (va_up (va_up a 9 f1) 10 f2) 11 f3) al)) := by
  obtain ⟨hP, hN, hP0, hP5, hN6, hc, hc4⟩ := id hF
  obtain ⟨hnp, hnp1, hy, hy4⟩ := id hR
  refine zr_ev zt_M_isTouched rfl rfl ?_
  show zm_Run zt_get 4 zt_M_isTouched (0, [some (.ref 0), some (.int (nI h)), some (.int (nI p)), none, none], [], (zw_M g gl a al)) _
  have tail : ∀ (b0 : Bool) (g1 g2 g3 : Nat → Int32), b0 = (o p && !zv_isS P N c np y o p) → zm_Run zt_get 4 zt_M_isTouched (23, [some (.ref 0), some (.int (nI h)), some (.int (nI p)), some (.int (nI b0.toNat)), none], [], (zw_M g gl (va_up (va_up (va_up a 9 g1) 10 g2) 11 g3) al)) (fun v w => v = some (.int (nI (zv_tch P N c np y o h p).toNat)) ∧ ∃ f1 f2 f3, w = (zw_M g gl (va_up (va_up (va_up a 9 f1) 10 f2) 11 f3) al)) := by
    intro b0 g1 g2 g3 hb0
    refine zr_go (t := (26, [some (.ref 0), some (.int (nI h)), some (.int (nI p)), some (.int (nI b0.toNat)), some (.int 0)], [], (zw_M g gl (va_up (va_up (va_up a 9 g1) 10 g2) 11 g3) al))) 2 rfl ?_
    refine zr_loop (fun q : Nat × Bool × (Nat → Int32) × (Nat → Int32) × (Nat → Int32) => (26, [some (.ref 0), some (.int (nI h)), some (.int (nI p)), some (.int (nI q.2.1.toNat)), some (.int (nI q.1))], [], (zw_M g gl (va_up (va_up (va_up a 9 q.2.2.1) 10 q.2.2.2.1) 11 q.2.2.2.2) al))) (fun q => q.1 ≤ np ∧ q.2.1 = (b0 && zA (fun t => (zv_dot N (y h) (y t) % P == 0) == (zv_pol P N c (y p) (y t) == 0)) q.1)) (fun q => np - q.1) ?_ (0, b0, g1, g2, g3) ⟨by omega, by simp [zA]⟩
    rintro ⟨k, b, f1, f2, f3⟩ ⟨hk, hb⟩ ih
    try dsimp only at *
    refine zr_go (t := (32, [some (.ref 0), some (.int (nI h)), some (.int (nI p)), some (.int (nI b.toNat)), some (.int (nI k))], [.int (g 6), .int (nI k)], (zw_M g gl (va_up (va_up (va_up a 9 f1) 10 f2) 11 f3) al))) 3 rfl ?_
    refine zr_ige (x := nI k) (y := g 6) k np rfl hnp (by omega) (by omega) (t := (76, [some (.ref 0), some (.int (nI h)), some (.int (nI p)), some (.int (nI b.toNat)), some (.int (nI k))], [], (zw_M g gl (va_up (va_up (va_up a 9 f1) 10 f2) 11 f3) al))) (f := (35, [some (.ref 0), some (.int (nI h)), some (.int (nI p)), some (.int (nI b.toNat)), some (.int (nI k))], [], (zw_M g gl (va_up (va_up (va_up a 9 f1) 10 f2) 11 f3) al))) rfl (fun h1 => ?_) (fun h1 => ?_)
    · skip
      refine zr_go (t := (77, [some (.ref 0), some (.int (nI h)), some (.int (nI p)), some (.int (nI b.toNat)), some (.int (nI k))], [.int (nI b.toNat)], (zw_M g gl (va_up (va_up (va_up a 9 f1) 10 f2) 11 f3) al))) 1 rfl ?_
      exact zr_ret rfl (zb_ok b) ⟨by rw [hb, hb0, show k = np by omega]; rfl, f1, f2, f3, rfl⟩
    · skip
      refine zr_go (t := (36, [some (.ref 0), some (.int (nI h)), some (.int (nI p)), some (.int (nI b.toNat)), some (.int (nI k))], [.int (nI b.toNat)], (zw_M g gl (va_up (va_up (va_up a 9 f1) 10 f2) 11 f3) al))) 1 rfl ?_
      have hb1 := zb_le b
      refine zr_ieq (x := nI b.toNat) (y := 0) b.toNat 0 rfl rfl (by omega) (by omega) (t := (76, [some (.ref 0), some (.int (nI h)), some (.int (nI p)), some (.int (nI b.toNat)), some (.int (nI k))], [], (zw_M g gl (va_up (va_up (va_up a 9 f1) 10 f2) 11 f3) al))) (f := (39, [some (.ref 0), some (.int (nI h)), some (.int (nI p)), some (.int (nI b.toNat)), some (.int (nI k))], [], (zw_M g gl (va_up (va_up (va_up a 9 f1) 10 f2) 11 f3) al))) rfl (fun h2 => ?_) (fun h2 => ?_)
      · skip
        refine zr_go (t := (77, [some (.ref 0), some (.int (nI h)), some (.int (nI p)), some (.int (nI b.toNat)), some (.int (nI k))], [.int (nI b.toNat)], (zw_M g gl (va_up (va_up (va_up a 9 f1) 10 f2) 11 f3) al))) 1 rfl ?_
        have e0 := zb_0 h2
        exact zr_ret rfl (zb_ok b) ⟨by rw [e0] at hb ⊢; rw [show zv_tch P N c np y o h p = false from (Bool.and_eq_false_iff.mp hb.symm).elim (fun e => by unfold zv_tch; rw [← hb0, e]; rfl) (fun e => by unfold zv_tch; rw [zA_no e hk, Bool.and_false])], f1, f2, f3, rfl⟩
      · skip
        refine zr_go (t := (43, [some (.ref 0), some (.int (nI h)), some (.int (nI p)), some (.int (nI b.toNat)), some (.int (nI k))], [.int (nI k), .int (nI h), .ref 0], (zw_M g gl (va_up (va_up (va_up a 9 f1) 10 f2) 11 f3) al))) 3 rfl ?_
        have hbt := zb_1 h2
        refine zr_call (t := (46, [some (.ref 0), some (.int (nI h)), some (.int (nI p)), some (.int (nI b.toNat)), some (.int (nI k))], [], (zw_M g gl (va_up (va_up (va_up a 9 f1) 10 f2) 11 f3) al))) rfl (Nat.le_of_ble_eq_true rfl : 1 ≤ 4) (zs_M_isInSection g gl (va_up (va_up (va_up a 9 f1) 10 f2) 11 f3) al P N c hF np y hR h k hh (by omega)) ?_
        rintro _ _ ⟨rfl, rfl⟩
        show zm_Run zt_get 4 zt_M_isTouched (46, [some (.ref 0), some (.int (nI h)), some (.int (nI p)), some (.int (nI b.toNat)), some (.int (nI k))], [.int (nI ((zv_dot N (y h) (y k) % P == 0).toNat))], (zw_M g gl (va_up (va_up (va_up a 9 f1) 10 f2) 11 f3) al)) _
        refine zr_go (t := (50, [some (.ref 0), some (.int (nI h)), some (.int (nI p)), some (.int (nI b.toNat)), some (.int (nI k))], [.int (nI k), .int (nI p), .ref 0, .int (nI ((zv_dot N (y h) (y k) % P == 0).toNat))], (zw_M g gl (va_up (va_up (va_up a 9 f1) 10 f2) 11 f3) al))) 3 rfl ?_
        refine zr_call (t := (53, [some (.ref 0), some (.int (nI h)), some (.int (nI p)), some (.int (nI b.toNat)), some (.int (nI k))], [.int (nI ((zv_dot N (y h) (y k) % P == 0).toNat))], (zw_M g gl (va_up (va_up (va_up a 9 f1) 10 f2) 11 f3) al))) rfl (Nat.le_of_ble_eq_true rfl : 3 ≤ 4) (zs_M_polarAt g gl (va_up (va_up (va_up a 9 f1) 10 f2) 11 f3) al P N c hF p k (by omega) (by omega) (y p) (y k) (fun i hi => hy p i (by omega) hi) (fun i hi => hy4 p i (by omega) hi) (fun i hi => hy k i (by omega) hi) (fun i hi => hy4 k i (by omega) hi)) ?_
        rintro _ _ ⟨rfl, e1, e2, e3, rfl⟩
        show zm_Run zt_get 4 zt_M_isTouched (53, [some (.ref 0), some (.int (nI h)), some (.int (nI p)), some (.int (nI b.toNat)), some (.int (nI k))], [.int (nI (zv_pol P N c (y p) (y k))), .int (nI ((zv_dot N (y h) (y k) % P == 0).toNat))], (zw_M g gl (va_up (va_up (va_up a 9 e1) 10 e2) 11 e3) al)) _
        have hpl := zv_pol_lt (N := N) (c := c) (x := y p) (y := y k) hP0
        have hd1 := zb_le (zv_dot N (y h) (y k) % P == 0)
        refine zr_ine (x := nI (zv_pol P N c (y p) (y k))) (y := 0) (zv_pol P N c (y p) (y k)) 0 rfl rfl (by omega) (by omega) (t := (60, [some (.ref 0), some (.int (nI h)), some (.int (nI p)), some (.int (nI b.toNat)), some (.int (nI k))], [.int (nI ((zv_dot N (y h) (y k) % P == 0).toNat))], (zw_M g gl (va_up (va_up (va_up a 9 e1) 10 e2) 11 e3) al))) (f := (56, [some (.ref 0), some (.int (nI h)), some (.int (nI p)), some (.int (nI b.toNat)), some (.int (nI k))], [.int (nI ((zv_dot N (y h) (y k) % P == 0).toNat))], (zw_M g gl (va_up (va_up (va_up a 9 e1) 10 e2) 11 e3) al))) rfl (fun h3 => ?_) (fun h3 => ?_)
        · skip
          refine zr_go (t := (61, [some (.ref 0), some (.int (nI h)), some (.int (nI p)), some (.int (nI b.toNat)), some (.int (nI k))], [.int 0, .int (nI ((zv_dot N (y h) (y k) % P == 0).toNat))], (zw_M g gl (va_up (va_up (va_up a 9 e1) 10 e2) 11 e3) al))) 1 rfl ?_
          refine zr_ine (x := nI ((zv_dot N (y h) (y k) % P == 0).toNat)) (y := 0) ((zv_dot N (y h) (y k) % P == 0).toNat) 0 rfl rfl (by omega) (by omega) (t := (68, [some (.ref 0), some (.int (nI h)), some (.int (nI p)), some (.int (nI b.toNat)), some (.int (nI k))], [], (zw_M g gl (va_up (va_up (va_up a 9 e1) 10 e2) 11 e3) al))) (f := (64, [some (.ref 0), some (.int (nI h)), some (.int (nI p)), some (.int (nI b.toNat)), some (.int (nI k))], [], (zw_M g gl (va_up (va_up (va_up a 9 e1) 10 e2) 11 e3) al))) rfl (fun h4 => ?_) (fun h4 => ?_)
          · skip
            refine zr_go (t := (26, [some (.ref 0), some (.int (nI h)), some (.int (nI p)), some (.int 0), some (.int ((nI k) + 1))], [], (zw_M g gl (va_up (va_up (va_up a 9 e1) 10 e2) 11 e3) al))) 4 rfl ?_
            rw [show some (Value.int 0) = some (Value.int (nI (false).toNat)) from rfl]
            rw [show (nI k) + 1 = nI (k + 1) from (zn_add rfl rfl)]
            exact ih (k + 1, false, e1, e2, e3) ⟨by omega, by rw [hbt] at hb; show false = (b0 && (zA _ k && _)); rw [← Bool.and_assoc, ← hb]; dsimp only; generalize (zv_dot N (y h) (y k) % P == 0) = z at h4 ⊢; cases z <;> simp_all⟩ (by omega)
          · skip
            refine zr_go (t := (26, [some (.ref 0), some (.int (nI h)), some (.int (nI p)), some (.int 1), some (.int ((nI k) + 1))], [], (zw_M g gl (va_up (va_up (va_up a 9 e1) 10 e2) 11 e3) al))) 5 rfl ?_
            rw [show some (Value.int 1) = some (Value.int (nI (true).toNat)) from rfl]
            rw [show (nI k) + 1 = nI (k + 1) from (zn_add rfl rfl)]
            exact ih (k + 1, true, e1, e2, e3) ⟨by omega, by rw [hbt] at hb; show true = (b0 && (zA _ k && _)); rw [← Bool.and_assoc, ← hb]; dsimp only; generalize (zv_dot N (y h) (y k) % P == 0) = z at h4 ⊢; cases z <;> simp_all⟩ (by omega)
        · skip
          refine zr_go (t := (61, [some (.ref 0), some (.int (nI h)), some (.int (nI p)), some (.int (nI b.toNat)), some (.int (nI k))], [.int 1, .int (nI ((zv_dot N (y h) (y k) % P == 0).toNat))], (zw_M g gl (va_up (va_up (va_up a 9 e1) 10 e2) 11 e3) al))) 2 rfl ?_
          refine zr_ine (x := nI ((zv_dot N (y h) (y k) % P == 0).toNat)) (y := 1) ((zv_dot N (y h) (y k) % P == 0).toNat) 1 rfl rfl (by omega) (by omega) (t := (68, [some (.ref 0), some (.int (nI h)), some (.int (nI p)), some (.int (nI b.toNat)), some (.int (nI k))], [], (zw_M g gl (va_up (va_up (va_up a 9 e1) 10 e2) 11 e3) al))) (f := (64, [some (.ref 0), some (.int (nI h)), some (.int (nI p)), some (.int (nI b.toNat)), some (.int (nI k))], [], (zw_M g gl (va_up (va_up (va_up a 9 e1) 10 e2) 11 e3) al))) rfl (fun h4 => ?_) (fun h4 => ?_)
          · skip
            refine zr_go (t := (26, [some (.ref 0), some (.int (nI h)), some (.int (nI p)), some (.int 0), some (.int ((nI k) + 1))], [], (zw_M g gl (va_up (va_up (va_up a 9 e1) 10 e2) 11 e3) al))) 4 rfl ?_
            rw [show some (Value.int 0) = some (Value.int (nI (false).toNat)) from rfl]
            rw [show (nI k) + 1 = nI (k + 1) from (zn_add rfl rfl)]
            exact ih (k + 1, false, e1, e2, e3) ⟨by omega, by rw [hbt] at hb; show false = (b0 && (zA _ k && _)); rw [← Bool.and_assoc, ← hb]; dsimp only; generalize (zv_dot N (y h) (y k) % P == 0) = z at h4 ⊢; cases z <;> simp_all⟩ (by omega)
          · skip
            refine zr_go (t := (26, [some (.ref 0), some (.int (nI h)), some (.int (nI p)), some (.int 1), some (.int ((nI k) + 1))], [], (zw_M g gl (va_up (va_up (va_up a 9 e1) 10 e2) 11 e3) al))) 5 rfl ?_
            rw [show some (Value.int 1) = some (Value.int (nI (true).toNat)) from rfl]
            rw [show (nI k) + 1 = nI (k + 1) from (zn_add rfl rfl)]
            exact ih (k + 1, true, e1, e2, e3) ⟨by omega, by rw [hbt] at hb; show true = (b0 && (zA _ k && _)); rw [← Bool.and_assoc, ← hb]; dsimp only; generalize (zv_dot N (y h) (y k) % P == 0) = z at h4 ⊢; cases z <;> simp_all⟩ (by omega)
  refine zr_go (t := (5, [some (.ref 0), some (.int (nI h)), some (.int (nI p)), none, none], [.int (nI p), .ref 5], (zw_M g gl a al))) 3 rfl ?_
  refine zr_cd (t := (6, [some (.ref 0), some (.int (nI h)), some (.int (nI p)), none, none], [.int ((a 5) (nI p).toNatClampNeg)], (zw_M g gl a al))) rfl (pk_in p 156 (by omega) rfl (by omega)) ?_
  rw [pk_cl (x := nI p) p rfl (by omega)]
  rw [show (a 5) p = nI ((o p).toNat) from hO p (by omega)]
  have ho1 := zb_le (o p)
  refine zr_ieq (x := nI ((o p).toNat)) (y := 0) ((o p).toNat) 0 rfl rfl (by omega) (by omega) (t := (21, [some (.ref 0), some (.int (nI h)), some (.int (nI p)), none, none], [], (zw_M g gl a al))) (f := (9, [some (.ref 0), some (.int (nI h)), some (.int (nI p)), none, none], [], (zw_M g gl a al))) rfl (fun h2 => ?_) (fun h2 => ?_)
  · skip
    refine zr_go (t := (23, [some (.ref 0), some (.int (nI h)), some (.int (nI p)), some (.int 0), none], [], (zw_M g gl a al))) 2 rfl ?_
    exact tail false (a 9) (a 10) (a 11) (by simp [zb_0 h2])
  · skip
    refine zr_go (t := (11, [some (.ref 0), some (.int (nI h)), some (.int (nI p)), none, none], [.int (nI p), .ref 0], (zw_M g gl a al))) 2 rfl ?_
    refine zr_call (t := (14, [some (.ref 0), some (.int (nI h)), some (.int (nI p)), none, none], [], (zw_M g gl a al))) rfl (Nat.le_of_ble_eq_true rfl : 4 ≤ 4) (zs_M_isSingular g gl a al P N c hF np y hR o hO p hp) ?_
    rintro _ _ ⟨rfl, g1, g2, g3, rfl⟩
    show zm_Run zt_get 4 zt_M_isTouched (14, [some (.ref 0), some (.int (nI h)), some (.int (nI p)), none, none], [.int (nI ((zv_isS P N c np y o p).toNat))], (zw_M g gl (va_up (va_up (va_up a 9 g1) 10 g2) 11 g3) al)) _
    have hs1 := zb_le (zv_isS P N c np y o p)
    refine zr_ine (x := nI ((zv_isS P N c np y o p).toNat)) (y := 0) ((zv_isS P N c np y o p).toNat) 0 rfl rfl (by omega) (by omega) (t := (21, [some (.ref 0), some (.int (nI h)), some (.int (nI p)), none, none], [], (zw_M g gl (va_up (va_up (va_up a 9 g1) 10 g2) 11 g3) al))) (f := (17, [some (.ref 0), some (.int (nI h)), some (.int (nI p)), none, none], [], (zw_M g gl (va_up (va_up (va_up a 9 g1) 10 g2) 11 g3) al))) rfl (fun h3 => ?_) (fun h3 => ?_)
    · skip
      refine zr_go (t := (23, [some (.ref 0), some (.int (nI h)), some (.int (nI p)), some (.int 0), none], [], (zw_M g gl (va_up (va_up (va_up a 9 g1) 10 g2) 11 g3) al))) 2 rfl ?_
      exact tail false g1 g2 g3 (by simp [zb_1 h3])
    · skip
      refine zr_go (t := (23, [some (.ref 0), some (.int (nI h)), some (.int (nI p)), some (.int 1), none], [], (zw_M g gl (va_up (va_up (va_up a 9 g1) 10 g2) 11 g3) al))) 3 rfl ?_
      exact tail true g1 g2 g3 (by simp [zb_0 h3, zb_1 h2])
/-- the first of n numbers with a property, n if there is none -/
def zM (f : Nat → Bool) : Nat → Nat → Nat
  | k, 0 => k
  | k, n + 1 => if f k then k else zM f (k + 1) n
theorem zs_M_touches (g : Nat → Int32) (gl : Nat → Int64) (a : Nat → Nat → Int32) (al : Nat → Nat → Int64) (P N : Nat) (c : Nat → Nat) (hF : zc_F g a P N c) (np : Nat) (y : Nat → Nat → Nat) (hR : zc_R g a np y) (o : Nat → Bool) (hO : zc_O a np o) (h : Nat) (hh : h < np) : zm_Ev zt_get 6 169 [.ref 0, .int (nI h)] (zw_M g gl a al) (fun v w => v = some (.int (if zM (zv_tch P N c np y o h) 0 np < np then nI (zM (zv_tch P N c np y o h) 0 np) else -1)) ∧ ∃ f1 f2 f3, w = (zw_M g gl (va_up (va_up (va_up a 9 f1) 10 f2) 11 f3) al)) := by
  obtain ⟨hP, hN, hP0, hP5, hN6, hc, hc4⟩ := id hF
  obtain ⟨hnp, hnp1, hy, hy4⟩ := id hR
  refine zr_ev zt_M_touches rfl rfl ?_
  show zm_Run zt_get 5 zt_M_touches (0, [some (.ref 0), some (.int (nI h)), none], [], (zw_M g gl a al)) _
  refine zr_go (t := (2, [some (.ref 0), some (.int (nI h)), some (.int 0)], [], (zw_M g gl a al))) 2 rfl ?_
  refine zr_loop (fun q : Nat × (Nat → Int32) × (Nat → Int32) × (Nat → Int32) => (2, [some (.ref 0), some (.int (nI h)), some (.int (nI q.1))], [], (zw_M g gl (va_up (va_up (va_up a 9 q.2.1) 10 q.2.2.1) 11 q.2.2.2) al))) (fun q => q.1 ≤ np ∧ zM (zv_tch P N c np y o h) q.1 (np - q.1) = zM (zv_tch P N c np y o h) 0 np) (fun q => np - q.1) ?_ (0, a 9, a 10, a 11) ⟨by omega, rfl⟩
  rintro ⟨k, f1, f2, f3⟩ ⟨hk, hm⟩ ih
  try dsimp only at *
  refine zr_go (t := (7, [some (.ref 0), some (.int (nI h)), some (.int (nI k))], [.int (g 6), .int (nI k)], (zw_M g gl (va_up (va_up (va_up a 9 f1) 10 f2) 11 f3) al))) 3 rfl ?_
  refine zr_ige (x := nI k) (y := g 6) k np rfl hnp (by omega) (by omega) (t := (25, [some (.ref 0), some (.int (nI h)), some (.int (nI k))], [], (zw_M g gl (va_up (va_up (va_up a 9 f1) 10 f2) 11 f3) al))) (f := (10, [some (.ref 0), some (.int (nI h)), some (.int (nI k))], [], (zw_M g gl (va_up (va_up (va_up a 9 f1) 10 f2) 11 f3) al))) rfl (fun h1 => ?_) (fun h1 => ?_)
  · skip
    have e6 : zM (zv_tch P N c np y o h) 0 np = k := by rw [← hm, show np - k = 0 by omega]; rfl
    refine zr_go (t := (30, [some (.ref 0), some (.int (nI h)), some (.int (nI k))], [.int (g 6), .int (nI k)], (zw_M g gl (va_up (va_up (va_up a 9 f1) 10 f2) 11 f3) al))) 3 rfl ?_
    refine zr_ige (x := nI k) (y := g 6) k np rfl hnp (by omega) (by omega) (t := (37, [some (.ref 0), some (.int (nI h)), some (.int (nI k))], [], (zw_M g gl (va_up (va_up (va_up a 9 f1) 10 f2) 11 f3) al))) (f := (33, [some (.ref 0), some (.int (nI h)), some (.int (nI k))], [], (zw_M g gl (va_up (va_up (va_up a 9 f1) 10 f2) 11 f3) al))) rfl (fun h2 => ?_) (fun h2 => ?_)
    · skip
      refine zr_go (t := (38, [some (.ref 0), some (.int (nI h)), some (.int (nI k))], [.int (-1)], (zw_M g gl (va_up (va_up (va_up a 9 f1) 10 f2) 11 f3) al))) 1 rfl ?_
      exact zr_ret rfl trivial ⟨by rw [e6, if_neg (by omega)], f1, f2, f3, rfl⟩
    · skip
      exfalso; omega
  · skip
    refine zr_go (t := (13, [some (.ref 0), some (.int (nI h)), some (.int (nI k))], [.int (nI k), .int (nI h), .ref 0], (zw_M g gl (va_up (va_up (va_up a 9 f1) 10 f2) 11 f3) al))) 3 rfl ?_
    refine zr_call (t := (16, [some (.ref 0), some (.int (nI h)), some (.int (nI k))], [], (zw_M g gl (va_up (va_up (va_up a 9 f1) 10 f2) 11 f3) al))) rfl (Nat.le_of_ble_eq_true rfl : 5 ≤ 5) (zs_M_isTouched g gl (va_up (va_up (va_up a 9 f1) 10 f2) 11 f3) al P N c hF np y hR o hO h k hh (by omega)) ?_
    rintro _ _ ⟨rfl, e1, e2, e3, rfl⟩
    show zm_Run zt_get 5 zt_M_touches (16, [some (.ref 0), some (.int (nI h)), some (.int (nI k))], [.int (nI ((zv_tch P N c np y o h k).toNat))], (zw_M g gl (va_up (va_up (va_up a 9 e1) 10 e2) 11 e3) al)) _
    have ht1 := zb_le (zv_tch P N c np y o h k)
    refine zr_ine (x := nI ((zv_tch P N c np y o h k).toNat)) (y := 0) ((zv_tch P N c np y o h k).toNat) 0 rfl rfl (by omega) (by omega) (t := (25, [some (.ref 0), some (.int (nI h)), some (.int (nI k))], [], (zw_M g gl (va_up (va_up (va_up a 9 e1) 10 e2) 11 e3) al))) (f := (19, [some (.ref 0), some (.int (nI h)), some (.int (nI k))], [], (zw_M g gl (va_up (va_up (va_up a 9 e1) 10 e2) 11 e3) al))) rfl (fun h2 => ?_) (fun h2 => ?_)
    · skip
      have e6 : zM (zv_tch P N c np y o h) 0 np = k := by rw [← hm, show np - k = (np - k - 1) + 1 by omega]; exact if_pos (zb_1 h2)
      refine zr_go (t := (30, [some (.ref 0), some (.int (nI h)), some (.int (nI k))], [.int (g 6), .int (nI k)], (zw_M g gl (va_up (va_up (va_up a 9 e1) 10 e2) 11 e3) al))) 3 rfl ?_
      refine zr_ige (x := nI k) (y := g 6) k np rfl hnp (by omega) (by omega) (t := (37, [some (.ref 0), some (.int (nI h)), some (.int (nI k))], [], (zw_M g gl (va_up (va_up (va_up a 9 e1) 10 e2) 11 e3) al))) (f := (33, [some (.ref 0), some (.int (nI h)), some (.int (nI k))], [], (zw_M g gl (va_up (va_up (va_up a 9 e1) 10 e2) 11 e3) al))) rfl (fun h3 => ?_) (fun h3 => ?_)
      · skip
        exfalso; omega
      · skip
        refine zr_go (t := (38, [some (.ref 0), some (.int (nI h)), some (.int (nI k))], [.int (nI k)], (zw_M g gl (va_up (va_up (va_up a 9 e1) 10 e2) 11 e3) al))) 2 rfl ?_
        exact zr_ret rfl trivial ⟨by rw [e6, if_pos (by omega)], e1, e2, e3, rfl⟩
    · skip
      refine zr_go (t := (2, [some (.ref 0), some (.int (nI h)), some (.int ((nI k) + 1))], [], (zw_M g gl (va_up (va_up (va_up a 9 e1) 10 e2) 11 e3) al))) 2 rfl ?_
      rw [show (nI k) + 1 = nI (k + 1) from (zn_add rfl rfl)]
      exact ih (k + 1, e1, e2, e3) ⟨by omega, by rw [← hm, show np - k = (np - (k + 1)) + 1 by omega]; exact (if_neg (by rw [zb_0 h2]; decide)).symm⟩ (by omega)
end
section
/-! the reference: the points, lines through two of them (written by wip/whole/gen_m4.py) -/
/-- the numbers of a vector by its code, the first one the highest -/
def zv_dg (P N k i : Nat) : Nat := if i < N then k / P ^ (N - 1 - i) % P else 0
theorem zv_dg_lt {P N k i : Nat} (h : 0 < P) : zv_dg P N k i < P := by
  unfold zv_dg; split
  · exact Nat.mod_lt _ h
  · exact h
/-- a code whose first number that isn't 0 is 1 -/
def zv_l1 (P N k : Nat) : Bool := zv_ff (zv_dg P N k) 6 == 1
/-- how many such codes there are below one -/
def zv_cnt (P N k : Nat) : Nat := zC (zv_l1 P N) k
theorem zv_l1_0 (P N : Nat) : zv_l1 P N 0 = false := by
  have h : ∀ i, zv_dg P N 0 i = 0 := by intro i; unfold zv_dg; split <;> simp
  simp [zv_l1, zv_ff, h]
theorem zs_M_layRow (g : Nat → Int32) (gl : Nat → Int64) (a : Nat → Nat → Int32) (al : Nat → Nat → Int64) (P N : Nat) (hP : g 0 = nI P) (hN : g 1 = nI N) (hP0 : 0 < P) (hP5 : P ≤ 5) (hN6 : N ≤ 6) (k : Nat) (hk : k < 2 ^ 31) : zm_Ev zt_get 1 119 [.ref 0, .int (nI k)] (zw_M g gl a al) (fun v w => v = none ∧ ∃ f, w = (zw_M g gl (va_up a 9 f) al) ∧ ∀ i, i < 6 → f i = nI (zv_dg P N k i)) := by
  refine zr_ev zt_M_layRow rfl rfl ?_
  show zm_Run zt_get 0 zt_M_layRow (0, [some (.ref 0), some (.int (nI k)), none, none], [], (zw_M g gl a al)) _
  refine zr_go (t := (4, [some (.ref 0), some (.int (nI k)), some (.int (nI k)), some (.int 5)], [], (zw_M g gl a al))) 4 rfl ?_
  rw [show (5 : Int32) = nI 6 + (-1) from by decide]
  refine zr_loop (fun q : Nat × Nat × (Nat → Int32) => (4, [some (.ref 0), some (.int (nI k)), some (.int (nI q.2.1)), some (.int (nI q.1 + (-1)))], [], (zw_M g gl (va_up a 9 q.2.2) al))) (fun q => q.1 ≤ 6 ∧ q.2.1 = k / P ^ (N - q.1) ∧ ∀ t, q.1 ≤ t → t < 6 → q.2.2 t = nI (zv_dg P N k t)) (fun q => q.1) ?_ (6, k, a 9) ⟨by omega, by rw [show N - 6 = 0 by omega, Nat.pow_zero, Nat.div_one], fun t h1 h2 => absurd h2 (by omega)⟩
  rintro ⟨j, L, f⟩ ⟨hj, hL, hf⟩ ih
  try dsimp only at *
  have hL1 : L ≤ k := by rw [hL]; exact Nat.div_le_self _ _
  rcases j with _ | j
  · skip
    refine zr_go (t := (5, [some (.ref 0), some (.int (nI k)), some (.int (nI L)), some (.int (nI 0 + (-1)))], [.int (nI 0 + (-1))], (zw_M g gl (va_up a 9 f) al))) 1 rfl ?_
    refine zr_if (c := (nI 0 + (-1)) < 0) (t := (57, [some (.ref 0), some (.int (nI k)), some (.int (nI L)), some (.int (nI 0 + (-1)))], [], (zw_M g gl (va_up a 9 f) al))) (f := (8, [some (.ref 0), some (.int (nI k)), some (.int (nI L)), some (.int (nI 0 + (-1)))], [], (zw_M g gl (va_up a 9 f) al))) rfl (fun h1 => ?_) (fun h1 => ?_)
    · skip
      exact zr_ret rfl trivial ⟨rfl, f, rfl, fun i hi => hf i (Nat.zero_le _) hi⟩
    · skip
      exact absurd (by decide : nI 0 + (-1) < (0 : Int32)) h1
  · skip
    rw [pk_m1]
    refine zr_go (t := (5, [some (.ref 0), some (.int (nI k)), some (.int (nI L)), some (.int (nI j))], [.int (nI j)], (zw_M g gl (va_up a 9 f) al))) 1 rfl ?_
    refine zr_ilt (x := nI j) (y := 0) j 0 rfl rfl (by omega) (by omega) (t := (57, [some (.ref 0), some (.int (nI k)), some (.int (nI L)), some (.int (nI j))], [], (zw_M g gl (va_up a 9 f) al))) (f := (8, [some (.ref 0), some (.int (nI k)), some (.int (nI L)), some (.int (nI j))], [], (zw_M g gl (va_up a 9 f) al))) rfl (fun h1 => ?_) (fun h1 => ?_)
    · skip
      exact absurd h1 (Nat.not_lt_zero _)
    · skip
      refine zr_go (t := (18, [some (.ref 0), some (.int (nI k)), some (.int (nI L)), some (.int (nI j))], [.int (g 1), .int (nI j), .int (nI j), .ref 9], (zw_M g gl (va_up a 9 f) al))) 6 rfl ?_
      refine zr_ige (x := nI j) (y := g 1) j N rfl hN (by omega) (by omega) (t := (30, [some (.ref 0), some (.int (nI k)), some (.int (nI L)), some (.int (nI j))], [.int (nI j), .ref 9], (zw_M g gl (va_up a 9 f) al))) (f := (21, [some (.ref 0), some (.int (nI k)), some (.int (nI L)), some (.int (nI j))], [.int (nI j), .ref 9], (zw_M g gl (va_up a 9 f) al))) rfl (fun h2 => ?_) (fun h2 => ?_)
      · skip
        refine zr_go (t := (31, [some (.ref 0), some (.int (nI k)), some (.int (nI L)), some (.int (nI j))], [.int 0, .int (nI j), .ref 9], (zw_M g gl (va_up a 9 f) al))) 1 rfl ?_
        refine zr_cd (t := (32, [some (.ref 0), some (.int (nI k)), some (.int (nI L)), some (.int (nI j))], [], (zw_M g gl (va_up a 9 (upd f ((nI j).toNatClampNeg) 0)) al))) rfl (pk_in j 6 (by omega) rfl (by omega)) ?_
        rw [pk_cl (x := nI j) j rfl (by omega)]
        refine zr_go (t := (37, [some (.ref 0), some (.int (nI k)), some (.int (nI L)), some (.int (nI j))], [.int (g 1), .int (nI j)], (zw_M g gl (va_up a 9 (upd f j 0)) al))) 3 rfl ?_
        refine zr_ige (x := nI j) (y := g 1) j N rfl hN (by omega) (by omega) (t := (49, [some (.ref 0), some (.int (nI k)), some (.int (nI L)), some (.int (nI j))], [], (zw_M g gl (va_up a 9 (upd f j 0)) al))) (f := (40, [some (.ref 0), some (.int (nI k)), some (.int (nI L)), some (.int (nI j))], [], (zw_M g gl (va_up a 9 (upd f j 0)) al))) rfl (fun h3 => ?_) (fun h3 => ?_)
        · skip
          refine zr_go (t := (4, [some (.ref 0), some (.int (nI k)), some (.int (nI L)), some (.int ((nI j) + (-1)))], [], (zw_M g gl (va_up a 9 (upd f j 0)) al))) 4 rfl ?_
          exact ih (j, L, (upd f j 0)) ⟨by omega, by rw [hL, show N - (j + 1) = N - j by omega], fun t h5 h6 => if e : t = j then by subst e; refine pk_us.trans ?_; exact congrArg nI (by unfold zv_dg; rw [if_neg (by omega)]) else (pk_un e).trans (hf t (by omega) h6)⟩ (Nat.lt_succ_self j)
        · skip
          exfalso; omega
      · skip
        refine zr_go (t := (26, [some (.ref 0), some (.int (nI k)), some (.int (nI L)), some (.int (nI j))], [.int (g 0), .int (nI L), .int (nI j), .ref 9], (zw_M g gl (va_up a 9 f) al))) 3 rfl ?_
        refine zr_cd (t := (27, [some (.ref 0), some (.int (nI k)), some (.int (nI L)), some (.int (nI j))], [.int ((nI L) - (nI L) / (g 0) * (g 0)), .int (nI j), .ref 9], (zw_M g gl (va_up a 9 f) al))) rfl (zn_ne0 hP (by omega) (by omega)) ?_
        rw [show (nI L) - (nI L) / (g 0) * (g 0) = nI (L % P) from (zn_rem rfl hP (by omega) (by omega) (by omega))]
        refine zr_go (t := (31, [some (.ref 0), some (.int (nI k)), some (.int (nI L)), some (.int (nI j))], [.int (nI (L % P)), .int (nI j), .ref 9], (zw_M g gl (va_up a 9 f) al))) 1 rfl ?_
        refine zr_cd (t := (32, [some (.ref 0), some (.int (nI k)), some (.int (nI L)), some (.int (nI j))], [], (zw_M g gl (va_up a 9 (upd f ((nI j).toNatClampNeg) (nI (L % P)))) al))) rfl (pk_in j 6 (by omega) rfl (by omega)) ?_
        rw [pk_cl (x := nI j) j rfl (by omega)]
        refine zr_go (t := (37, [some (.ref 0), some (.int (nI k)), some (.int (nI L)), some (.int (nI j))], [.int (g 1), .int (nI j)], (zw_M g gl (va_up a 9 (upd f j (nI (L % P)))) al))) 3 rfl ?_
        refine zr_ige (x := nI j) (y := g 1) j N rfl hN (by omega) (by omega) (t := (49, [some (.ref 0), some (.int (nI k)), some (.int (nI L)), some (.int (nI j))], [], (zw_M g gl (va_up a 9 (upd f j (nI (L % P)))) al))) (f := (40, [some (.ref 0), some (.int (nI k)), some (.int (nI L)), some (.int (nI j))], [], (zw_M g gl (va_up a 9 (upd f j (nI (L % P)))) al))) rfl (fun h3 => ?_) (fun h3 => ?_)
        · skip
          exfalso; omega
        · skip
          refine zr_go (t := (45, [some (.ref 0), some (.int (nI k)), some (.int (nI L)), some (.int (nI j))], [.int (g 0), .int (nI L)], (zw_M g gl (va_up a 9 (upd f j (nI (L % P)))) al))) 3 rfl ?_
          refine zr_cd (t := (46, [some (.ref 0), some (.int (nI k)), some (.int (nI L)), some (.int (nI j))], [.int ((nI L) / (g 0))], (zw_M g gl (va_up a 9 (upd f j (nI (L % P)))) al))) rfl (zn_ne0 hP (by omega) (by omega)) ?_
          rw [show (nI L) / (g 0) = nI (L / P) from (zn_div rfl hP (by omega) (by omega) (by omega))]
          refine zr_go (t := (4, [some (.ref 0), some (.int (nI k)), some (.int (nI (L / P))), some (.int ((nI j) + (-1)))], [], (zw_M g gl (va_up a 9 (upd f j (nI (L % P)))) al))) 4 rfl ?_
          exact ih (j, L / P, (upd f j (nI (L % P)))) ⟨by omega, by rw [hL, Nat.div_div_eq_div_mul, ← Nat.pow_succ, show (N - (j + 1)).succ = N - j by omega], fun t h5 h6 => if e : t = j then by subst e; refine pk_us.trans ?_; exact congrArg nI (by unfold zv_dg; rw [if_pos (by omega), hL, show N - (t + 1) = N - 1 - t by omega]) else (pk_un e).trans (hf t (by omega) h6)⟩ (Nat.lt_succ_self j)
theorem zv_ff_lt {x : Nat → Nat} {B : Nat} (h : ∀ i, i < 6 → x i < B + 1) (n : Nat) : zv_ff x n < B + 1 := by
  induction n with
  | zero => exact Nat.succ_pos _
  | succ n ih => unfold zv_ff; split; exact ih; exact h _ (by omega)
theorem zC_lt {f : Nat → Bool} {k n : Nat} (h : f k = true) (hk : k < n) : zC f k + 1 ≤ zC f n := by
  refine Nat.le_trans ?_ (zC_mono f hk)
  show _ ≤ zC f k + (f k).toNat
  rw [h]; exact Nat.le_refl _
theorem zs_M_layPoints (g : Nat → Int32) (gl : Nat → Int64) (a : Nat → Nat → Int32) (al : Nat → Nat → Int64) (P N : Nat) (hP : g 0 = nI P) (hN : g 1 = nI N) (hP0 : 0 < P) (hP5 : P ≤ 5) (hN6 : N ≤ 6) (hA : P ^ N ≤ 729) (hB : zv_cnt P N (P ^ N) ≤ 156) : zm_Ev zt_get 2 120 [.ref 0] (zw_M g gl a al) (fun v w => v = none ∧ ∃ fr fn f9, w = (zw_M (upd g 6 (nI (zv_cnt P N (P ^ N)))) gl (va_up (va_up (va_up a 3 fr) 4 fn) 9 f9) al) ∧ (∀ t, 1 ≤ t → t < P ^ N → fn t = if zv_l1 P N t then nI (zv_cnt P N t) else -1) ∧ (∀ t, 1 ≤ t → t < P ^ N → zv_l1 P N t = true → ∀ i, i < 6 → fr (6 * zv_cnt P N t + i) = nI (zv_dg P N t i))) := by
  refine zr_ev zt_M_layPoints rfl rfl ?_
  show zm_Run zt_get 1 zt_M_layPoints (0, [some (.ref 0), none, none, none], [], (zw_M g gl a al)) _
  refine zr_go (t := (4, [some (.ref 0), some (.int 1), some (.int 0), none], [], (zw_M g gl a al))) 4 rfl ?_
  refine zr_loop (fun q : Nat × Nat => (4, [some (.ref 0), some (.int (nI q.2)), some (.int (nI q.1)), none], [], (zw_M g gl a al))) (fun q => q.1 ≤ N ∧ q.2 = P ^ q.1) (fun q => N - q.1) ?_ (0, 1) ⟨by omega, rfl⟩
  rintro ⟨i, A⟩ ⟨hi, hAe⟩ ih
  try dsimp only at *
  refine zr_go (t := (9, [some (.ref 0), some (.int (nI A)), some (.int (nI i)), none], [.int (g 1), .int (nI i)], (zw_M g gl a al))) 3 rfl ?_
  refine zr_ige (x := nI i) (y := g 1) i N rfl hN (by omega) (by omega) (t := (25, [some (.ref 0), some (.int (nI A)), some (.int (nI i)), none], [], (zw_M g gl a al))) (f := (12, [some (.ref 0), some (.int (nI A)), some (.int (nI i)), none], [], (zw_M g gl a al))) rfl (fun h1 => ?_) (fun h1 => ?_)
  · skip
    have e1 : N = i := by omega
    subst e1
    subst hAe
    refine zr_go (t := (32, [some (.ref 0), some (.int (nI (P ^ N))), some (.int 1), none], [], (zw_M (upd g 6 0) gl a al))) 5 rfl ?_
    refine zr_loop (fun q : Nat × Nat × (Nat → Int32) × (Nat → Int32) × (Nat → Int32) => (32, [some (.ref 0), some (.int (nI (P ^ N))), some (.int (nI q.1)), none], [], (zw_M (upd g 6 (nI q.2.1)) gl (va_up (va_up (va_up a 3 q.2.2.1) 4 q.2.2.2.1) 9 q.2.2.2.2) al))) (fun q => 1 ≤ q.1 ∧ q.1 ≤ P ^ N ∧ q.2.1 = zv_cnt P N q.1 ∧ (∀ t, 1 ≤ t → t < q.1 → q.2.2.2.1 t = if zv_l1 P N t then nI (zv_cnt P N t) else -1) ∧ (∀ t, 1 ≤ t → t < q.1 → zv_l1 P N t = true → ∀ i, i < 6 → q.2.2.1 (6 * zv_cnt P N t + i) = nI (zv_dg P N t i))) (fun q => P ^ N - q.1) ?_ (1, 0, a 3, a 4, a 9) ⟨Nat.le_refl _, Nat.pow_pos hP0, by show 0 = 0 + (zv_l1 P N 0).toNat; rw [zv_l1_0]; rfl, fun t h1 h2 => absurd h2 (by omega), fun t h1 h2 => absurd h2 (by omega)⟩
    rintro ⟨k, n, fr, fn, f9⟩ ⟨hk1, hk2, hn, hfn, hfr⟩ ih2
    try dsimp only at *
    have hn1 : n ≤ 156 := by rw [hn]; exact Nat.le_trans (zC_mono _ hk2) hB
    refine zr_go (t := (34, [some (.ref 0), some (.int (nI (P ^ N))), some (.int (nI k)), none], [.int (nI (P ^ N)), .int (nI k)], (zw_M (upd g 6 (nI n)) gl (va_up (va_up (va_up a 3 fr) 4 fn) 9 f9) al))) 2 rfl ?_
    refine zr_ige (x := nI k) (y := nI (P ^ N)) k (P ^ N) rfl rfl (by omega) (by omega) (t := (120, [some (.ref 0), some (.int (nI (P ^ N))), some (.int (nI k)), none], [], (zw_M (upd g 6 (nI n)) gl (va_up (va_up (va_up a 3 fr) 4 fn) 9 f9) al))) (f := (37, [some (.ref 0), some (.int (nI (P ^ N))), some (.int (nI k)), none], [], (zw_M (upd g 6 (nI n)) gl (va_up (va_up (va_up a 3 fr) 4 fn) 9 f9) al))) rfl (fun h2 => ?_) (fun h2 => ?_)
    · skip
      have e2 : k = P ^ N := by omega
      subst e2
      exact zr_ret rfl trivial ⟨rfl, fr, fn, f9, by rw [hn], hfn, hfr⟩
    · skip
      refine zr_go (t := (39, [some (.ref 0), some (.int (nI (P ^ N))), some (.int (nI k)), none], [.int (nI k), .ref 0], (zw_M (upd g 6 (nI n)) gl (va_up (va_up (va_up a 3 fr) 4 fn) 9 f9) al))) 2 rfl ?_
      refine zr_call (t := (42, [some (.ref 0), some (.int (nI (P ^ N))), some (.int (nI k)), none], [], (zw_M (upd g 6 (nI n)) gl (va_up (va_up (va_up a 3 fr) 4 fn) 9 f9) al))) rfl (Nat.le_of_ble_eq_true rfl : 1 ≤ 1) (zs_M_layRow (upd g 6 (nI n)) gl (va_up (va_up (va_up a 3 fr) 4 fn) 9 f9) al P N hP hN hP0 hP5 hN6 k (by omega)) ?_
      rintro _ _ ⟨rfl, e9, rfl, he9⟩
      show zm_Run zt_get 1 zt_M_layPoints (42, [some (.ref 0), some (.int (nI (P ^ N))), some (.int (nI k)), none], [], (zw_M (upd g 6 (nI n)) gl (va_up (va_up (va_up a 3 fr) 4 fn) 9 e9) al)) _
      refine zr_go (t := (48, [some (.ref 0), some (.int (nI (P ^ N))), some (.int (nI k)), none], [.int (-1), .int (nI k), .ref 4], (zw_M (upd g 6 (nI n)) gl (va_up (va_up (va_up a 3 fr) 4 fn) 9 e9) al))) 4 rfl ?_
      refine zr_cd (t := (49, [some (.ref 0), some (.int (nI (P ^ N))), some (.int (nI k)), none], [], (zw_M (upd g 6 (nI n)) gl (va_up (va_up (va_up a 3 fr) 4 (upd fn ((nI k).toNatClampNeg) (-1))) 9 e9) al))) rfl (pk_in k 729 (by omega) rfl (by omega)) ?_
      rw [pk_cl (x := nI k) k rfl (by omega)]
      refine zr_go (t := (53, [some (.ref 0), some (.int (nI (P ^ N))), some (.int (nI k)), none], [.ref 9], (zw_M (upd g 6 (nI n)) gl (va_up (va_up (va_up a 3 fr) 4 (upd fn k (-1))) 9 e9) al))) 2 rfl ?_
      refine zr_call (t := (56, [some (.ref 0), some (.int (nI (P ^ N))), some (.int (nI k)), none], [], (zw_M (upd g 6 (nI n)) gl (va_up (va_up (va_up a 3 fr) 4 (upd fn k (-1))) 9 e9) al))) rfl (Nat.le_of_ble_eq_true rfl : 1 ≤ 1) (zs_M_firstOf_9 (upd g 6 (nI n)) gl (va_up (va_up (va_up a 3 fr) 4 (upd fn k (-1))) 9 e9) al (zv_dg P N k) he9 (fun i hi => Nat.le_of_lt_succ (Nat.lt_of_lt_of_le (zv_dg_lt hP0) hP5))) ?_
      rintro _ _ ⟨rfl, rfl⟩
      show zm_Run zt_get 1 zt_M_layPoints (56, [some (.ref 0), some (.int (nI (P ^ N))), some (.int (nI k)), none], [.int (nI (zv_ff (zv_dg P N k) 6))], (zw_M (upd g 6 (nI n)) gl (va_up (va_up (va_up a 3 fr) 4 (upd fn k (-1))) 9 e9) al)) _
      have hff : zv_ff (zv_dg P N k) 6 < 6 := zv_ff_lt (fun i hi => Nat.lt_of_lt_of_le (zv_dg_lt hP0) (by omega)) 6
      refine zr_go (t := (57, [some (.ref 0), some (.int (nI (P ^ N))), some (.int (nI k)), none], [.int 1, .int (nI (zv_ff (zv_dg P N k) 6))], (zw_M (upd g 6 (nI n)) gl (va_up (va_up (va_up a 3 fr) 4 (upd fn k (-1))) 9 e9) al))) 1 rfl ?_
      refine zr_ine (x := nI (zv_ff (zv_dg P N k) 6)) (y := 1) (zv_ff (zv_dg P N k) 6) 1 rfl rfl (by omega) (by omega) (t := (114, [some (.ref 0), some (.int (nI (P ^ N))), some (.int (nI k)), none], [], (zw_M (upd g 6 (nI n)) gl (va_up (va_up (va_up a 3 fr) 4 (upd fn k (-1))) 9 e9) al))) (f := (60, [some (.ref 0), some (.int (nI (P ^ N))), some (.int (nI k)), none], [], (zw_M (upd g 6 (nI n)) gl (va_up (va_up (va_up a 3 fr) 4 (upd fn k (-1))) 9 e9) al))) rfl (fun h3 => ?_) (fun h3 => ?_)
      · skip
        have hl1 : zv_l1 P N k = false := by unfold zv_l1; simp [h3]
        have hn2 : n = zv_cnt P N (k + 1) := by rw [hn]; show _ = _ + (zv_l1 P N k).toNat; rw [hl1]; rfl
        refine zr_go (t := (32, [some (.ref 0), some (.int (nI (P ^ N))), some (.int ((nI k) + 1)), none], [], (zw_M (upd g 6 (nI n)) gl (va_up (va_up (va_up a 3 fr) 4 (upd fn k (-1))) 9 e9) al))) 2 rfl ?_
        rw [show (nI k) + 1 = nI (k + 1) from (zn_add rfl rfl)]
        exact ih2 (k + 1, n, fr, (upd fn k (-1)), e9) ⟨by omega, by omega, hn2, fun t h5 h6 => if e : t = k then by subst e; refine pk_us.trans ?_; rw [hl1]; rfl else (pk_un e).trans (hfn t h5 (by have h6 : t < k + 1 := h6; omega)), fun t h5 (h6 : t < k + 1) h7 => hfr t h5 (by have : t ≠ k := (fun q => by rw [q, hl1] at h7; cases h7); omega) h7⟩ (by omega)
      · skip
        have hl1 : zv_l1 P N k = true := by unfold zv_l1; simp [h3]
        have hn2 : n + 1 = zv_cnt P N (k + 1) := by rw [hn]; show _ = _ + (zv_l1 P N k).toNat; rw [hl1]; rfl
        have hn3 : n + 1 ≤ 156 := by rw [hn2]; exact Nat.le_trans (zC_mono _ (by omega)) hB
        refine zr_go (t := (69, [some (.ref 0), some (.int (nI (P ^ N))), some (.int (nI k)), none], [.int (nI n), .int (nI k), .ref 4], (zw_M (upd g 6 (nI n)) gl (va_up (va_up (va_up a 3 fr) 4 (upd fn k (-1))) 9 e9) al))) 5 rfl ?_
        refine zr_cd (t := (70, [some (.ref 0), some (.int (nI (P ^ N))), some (.int (nI k)), none], [], (zw_M (upd g 6 (nI n)) gl (va_up (va_up (va_up a 3 fr) 4 (upd (upd fn k (-1)) ((nI k).toNatClampNeg) (nI n))) 9 e9) al))) rfl (pk_in k 729 (by omega) rfl (by omega)) ?_
        rw [pk_cl (x := nI k) k rfl (by omega)]
        refine zr_go (t := (72, [some (.ref 0), some (.int (nI (P ^ N))), some (.int (nI k)), some (.int 0)], [], (zw_M (upd g 6 (nI n)) gl (va_up (va_up (va_up a 3 fr) 4 (upd (upd fn k (-1)) k (nI n))) 9 e9) al))) 2 rfl ?_
        refine zr_loop (fun q : Nat × (Nat → Int32) => (72, [some (.ref 0), some (.int (nI (P ^ N))), some (.int (nI k)), some (.int (nI q.1))], [], (zw_M (upd g 6 (nI n)) gl (va_up (va_up (va_up a 3 q.2) 4 (upd (upd fn k (-1)) k (nI n))) 9 e9) al))) (fun q => q.1 ≤ 6 ∧ (∀ s, s < 6 * n → q.2 s = fr s) ∧ ∀ s, s < q.1 → q.2 (6 * n + s) = nI (zv_dg P N k s)) (fun q => 6 - q.1) ?_ (0, fr) ⟨by omega, fun s _ => rfl, fun s h => absurd h (Nat.not_lt_zero s)⟩
        rintro ⟨t, fs⟩ ⟨ht, hs1, hs2⟩ ih3
        try dsimp only at *
        refine zr_go (t := (75, [some (.ref 0), some (.int (nI (P ^ N))), some (.int (nI k)), some (.int (nI t))], [.int 6, .int (nI t)], (zw_M (upd g 6 (nI n)) gl (va_up (va_up (va_up a 3 fs) 4 (upd (upd fn k (-1)) k (nI n))) 9 e9) al))) 2 rfl ?_
        refine zr_ige (x := nI t) (y := 6) t 6 rfl rfl (by omega) (by omega) (t := (104, [some (.ref 0), some (.int (nI (P ^ N))), some (.int (nI k)), some (.int (nI t))], [], (zw_M (upd g 6 (nI n)) gl (va_up (va_up (va_up a 3 fs) 4 (upd (upd fn k (-1)) k (nI n))) 9 e9) al))) (f := (78, [some (.ref 0), some (.int (nI (P ^ N))), some (.int (nI k)), some (.int (nI t))], [], (zw_M (upd g 6 (nI n)) gl (va_up (va_up (va_up a 3 fs) 4 (upd (upd fn k (-1)) k (nI n))) 9 e9) al))) rfl (fun h4 => ?_) (fun h4 => ?_)
        · skip
          refine zr_go (t := (32, [some (.ref 0), some (.int (nI (P ^ N))), some (.int ((nI k) + 1)), some (.int (nI t))], [], (zw_M (upd g 6 ((nI n) + 1)) gl (va_up (va_up (va_up a 3 fs) 4 (upd (upd fn k (-1)) k (nI n))) 9 e9) al))) 8 rfl ?_
          rw [show (nI k) + 1 = nI (k + 1) from (zn_add rfl rfl)]
          rw [show (nI n) + 1 = nI (n + 1) from (zn_add rfl rfl)]
          refine zr_forget [some (.ref 0), some (.int (nI (P ^ N))), some (.int (nI (k + 1))), none] ⟨Or.inr rfl, Or.inr rfl, Or.inr rfl, Or.inl rfl, trivial⟩ ?_
          exact ih2 (k + 1, n + 1, fs, (upd (upd fn k (-1)) k (nI n)), e9) ⟨by omega, by omega, hn2, fun t h5 h6 => if e : t = k then by subst e; refine pk_us.trans ?_; rw [if_pos hl1, ← hn] else ((pk_un e).trans (pk_un e)).trans (hfn t h5 (by have h6 : t < k + 1 := h6; omega)), fun s h5 (h6 : s < k + 1) h7 => if e : s = k then by subst e; intro i2 hi2; rw [← hn]; exact hs2 i2 (by omega) else fun i2 hi2 => (hs1 _ (by have h8 : zv_cnt P N s + 1 ≤ zv_cnt P N k := zC_lt h7 (by omega); omega)).trans (hfr s h5 (by omega) h7 i2 hi2)⟩ (by omega)
        · skip
          refine zr_go (t := (96, [some (.ref 0), some (.int (nI (P ^ N))), some (.int (nI k)), some (.int (nI t))], [.int (nI t), .ref 9, .int ((6 * (nI n)) + (nI t)), .ref 3], (zw_M (upd g 6 (nI n)) gl (va_up (va_up (va_up a 3 fs) 4 (upd (upd fn k (-1)) k (nI n))) 9 e9) al))) 11 rfl ?_
          refine zr_cd (t := (97, [some (.ref 0), some (.int (nI (P ^ N))), some (.int (nI k)), some (.int (nI t))], [.int (e9 (nI t).toNatClampNeg), .int ((6 * (nI n)) + (nI t)), .ref 3], (zw_M (upd g 6 (nI n)) gl (va_up (va_up (va_up a 3 fs) 4 (upd (upd fn k (-1)) k (nI n))) 9 e9) al))) rfl (pk_in t 6 (by omega) rfl (by omega)) ?_
          rw [pk_cl (x := nI t) t rfl (by omega)]
          rw [show e9 t = nI (zv_dg P N k t) from he9 t (by omega)]
          refine zr_cd (t := (98, [some (.ref 0), some (.int (nI (P ^ N))), some (.int (nI k)), some (.int (nI t))], [], (zw_M (upd g 6 (nI n)) gl (va_up (va_up (va_up a 3 (upd fs (((6 * (nI n)) + (nI t)).toNatClampNeg) (nI (zv_dg P N k t)))) 4 (upd (upd fn k (-1)) k (nI n))) 9 e9) al))) rfl (pk_in ((6 * n) + t) 936 (by omega) (zn_add (zn_mul rfl rfl) rfl) (by omega)) ?_
          rw [pk_cl (x := (6 * (nI n)) + (nI t)) ((6 * n) + t) (zn_add (zn_mul rfl rfl) rfl) (by omega)]
          refine zr_go (t := (72, [some (.ref 0), some (.int (nI (P ^ N))), some (.int (nI k)), some (.int ((nI t) + 1))], [], (zw_M (upd g 6 (nI n)) gl (va_up (va_up (va_up a 3 (upd fs ((6 * n) + t) (nI (zv_dg P N k t)))) 4 (upd (upd fn k (-1)) k (nI n))) 9 e9) al))) 2 rfl ?_
          rw [show (nI t) + 1 = nI (t + 1) from (zn_add rfl rfl)]
          exact ih3 (t + 1, (upd fs ((6 * n) + t) (nI (zv_dg P N k t)))) ⟨by omega, fun s h => (pk_un (by omega)).trans (hs1 s h), fun s h => if e : s = t then by subst e; exact pk_us else (pk_un (by omega)).trans (hs2 s (by omega))⟩ (by omega)
  · skip
    refine zr_go (t := (4, [some (.ref 0), some (.int ((nI A) * (g 0))), some (.int ((nI i) + 1)), none], [], (zw_M g gl a al))) 7 rfl ?_
    rw [show (nI i) + 1 = nI (i + 1) from (zn_add rfl rfl)]
    rw [show (nI A) * (g 0) = nI (A * P) from (zn_mul rfl hP)]
    exact ih (i + 1, A * P) ⟨by omega, by rw [hAe]; rfl⟩ (by omega)
end
section
/-! the reference: the point of a vector, collinear points (written by wip/whole/gen_m5.py) -/
def zv_inv (P f : Nat) : Nat := if f * 1 % P = 1 then 1 else if f * 2 % P = 1 then 2 else if f * 3 % P = 1 then 3 else 4
def zv_enc (P : Nat) (z : Nat → Nat) : Nat → Nat
  | 0 => 0
  | n + 1 => zv_enc P z n * P + z n
/-- the code of the multiple of a vector that begins with 1 -/
def zv_nrm (P : Nat) (x : Nat → Nat) : Nat → Nat := fun i => x i * zv_inv P (zv_ff x 6) % P
def zv_cdx (P N : Nat) (x : Nat → Nat) : Nat := zv_enc P (zv_nrm P x) N
/-- the point of a vector -/
def zv_pt (P N : Nat) (x : Nat → Nat) : Nat := zv_cnt P N (zv_cdx P N x)
theorem zv_P5 {P : Nat} (h : P = 2 ∨ P = 3 ∨ P = 5) : 0 < P ∧ P ≤ 5 := by omega
theorem zv_inv_ok (P : Nat) (_ : P < 6) (h : P = 2 ∨ P = 3 ∨ P = 5) : ∀ f, f < P → f ≠ 0 → f * zv_inv P f % P = 1 ∧ 1 ≤ zv_inv P f ∧ zv_inv P f ≤ 4 := by
  rcases h with rfl | rfl | rfl <;> decide +kernel
theorem zv_inv_le : ∀ P, P < 6 → ∀ f, f < 6 → ∀ b, b < 5 → 1 ≤ b → f * b % P = 1 → zv_inv P f ≤ b := by decide +kernel
theorem zv_inv_nz (P : Nat) (_ : P < 6) (h : P = 2 ∨ P = 3 ∨ P = 5) : ∀ f, f < P → f ≠ 0 → ∀ x, x < P → (x * zv_inv P f % P = 0 ↔ x = 0) := by
  rcases h with rfl | rfl | rfl <;> decide +kernel
theorem zv_enc_lt {P : Nat} {z : Nat → Nat} (n : Nat) (h : ∀ i, i < n → z i < P) : zv_enc P z n < P ^ n := by
  induction n with
  | zero => exact Nat.one_pos
  | succ n ih =>
    have h1 := ih (fun i hi => h i (by omega))
    have h2 := h n (by omega)
    show zv_enc P z n * P + z n < P ^ n * P
    have h3 : (zv_enc P z n + 1) * P ≤ P ^ n * P := Nat.mul_le_mul_right _ h1
    rw [Nat.add_mul] at h3
    omega
theorem zv_enc_dg {P : Nat} {z : Nat → Nat} (h0 : 0 < P) (n : Nat) (h : ∀ i, i < n → z i < P) : ∀ i, i < n → zv_dg P n (zv_enc P z n) i = z i := by
  induction n with
  | zero => intro i hi; omega
  | succ n ih =>
    intro i hi
    unfold zv_dg
    rw [if_pos hi]
    show (zv_enc P z n * P + z n) / P ^ (n - i) % P = z i
    have h2 := h n (by omega)
    by_cases e : i = n
    · subst e
      rw [Nat.sub_self, Nat.pow_zero, Nat.div_one, Nat.mul_comm, Nat.mul_add_mod]
      exact Nat.mod_eq_of_lt h2
    · have h1 := ih (fun i hi => h i (by omega)) i (by omega)
      unfold zv_dg at h1
      rw [if_pos (by omega)] at h1
      rw [show n - i = (n - 1 - i) + 1 by omega, Nat.pow_succ, Nat.mul_comm (P ^ (n - 1 - i)) P, ← Nat.div_div_eq_div_mul]
      rw [show (zv_enc P z n * P + z n) / P = zv_enc P z n from by rw [Nat.mul_comm, Nat.mul_add_div h0, Nat.div_eq_of_lt h2, Nat.add_zero]]
      exact h1
theorem zv_ff_congr {x y : Nat → Nat} (h : ∀ i, i < 6 → x i = y i) (n : Nat) : zv_ff x n = zv_ff y n := by
  induction n with
  | zero => rfl
  | succ n ih => unfold zv_ff; rw [ih, h (5 - n) (by omega)]
theorem zv_ff_map {x : Nat → Nat} {f : Nat → Nat} (h : ∀ i, i < 6 → (f (x i) = 0 ↔ x i = 0)) (h0 : f 0 = 0) (n : Nat) : zv_ff (fun i => f (x i)) n = f (zv_ff x n) := by
  induction n with
  | zero => exact h0.symm
  | succ n ih =>
    unfold zv_ff
    by_cases e : x (5 - n) = 0
    · rw [if_pos e, if_pos ((h _ (by omega)).mpr e), ih]
    · rw [if_neg e, if_neg (fun q => e ((h _ (by omega)).mp q))]
/-- a vector: numbers below P, 0 behind the variables, not all 0 -/
def zv_vec (P N : Nat) (x : Nat → Nat) : Prop := (∀ i, i < 6 → x i < P) ∧ (∀ i, N ≤ i → i < 6 → x i = 0) ∧ zv_ff x 6 ≠ 0
theorem zv_ff_ltP {x : Nat → Nat} {P : Nat} (h0 : 0 < P) (h : ∀ i, i < 6 → x i < P) (n : Nat) : zv_ff x n < P := by
  induction n with
  | zero => exact h0
  | succ n ih => unfold zv_ff; split; exact ih; exact h _ (by omega)
theorem zv_cdx_ok {P N : Nat} {x : Nat → Nat} (hPP : P = 2 ∨ P = 3 ∨ P = 5) (hN6 : N ≤ 6) (hx : zv_vec P N x) : (∀ i, i < 6 → zv_dg P N (zv_cdx P N x) i = zv_nrm P x i) ∧ zv_l1 P N (zv_cdx P N x) = true ∧ 1 ≤ zv_cdx P N x ∧ zv_cdx P N x < P ^ N := by
  obtain ⟨hP0, hP5⟩ := zv_P5 hPP
  have hlt : ∀ i, i < N → zv_nrm P x i < P := fun i _ => Nat.mod_lt _ hP0
  have hff := zv_ff_ltP hP0 hx.1 6
  have hdg : ∀ i, i < 6 → zv_dg P N (zv_cdx P N x) i = zv_nrm P x i := by
    intro i hi
    by_cases h : i < N
    · exact zv_enc_dg hP0 N hlt i h
    · unfold zv_dg zv_nrm
      rw [if_neg h, hx.2.1 i (by omega) hi, Nat.zero_mul, Nat.zero_mod]
  have hl : zv_ff (zv_dg P N (zv_cdx P N x)) 6 = 1 := by
    rw [zv_ff_congr hdg]
    show zv_ff (fun i => (fun t => t * zv_inv P (zv_ff x 6) % P) (x i)) 6 = 1
    rw [zv_ff_map (f := fun t => t * zv_inv P (zv_ff x 6) % P) (fun i hi => zv_inv_nz P (by omega) hPP _ hff hx.2.2 _ (hx.1 i hi)) (by simp)]
    exact (zv_inv_ok P (by omega) hPP _ hff hx.2.2).1
  have hl1 : zv_l1 P N (zv_cdx P N x) = true := by unfold zv_l1; rw [hl]; rfl
  refine ⟨hdg, hl1, ?_, zv_enc_lt N hlt⟩
  rcases Nat.eq_zero_or_pos (zv_cdx P N x) with e | e
  · rw [e, zv_l1_0] at hl1; cases hl1
  · exact e
theorem zs_M_pointOf (g : Nat → Int32) (gl : Nat → Int64) (a : Nat → Nat → Int32) (al : Nat → Nat → Int64) (P N : Nat) (hP : g 0 = nI P) (hN : g 1 = nI N) (hPP : P = 2 ∨ P = 3 ∨ P = 5) (hN6 : N ≤ 6) (hA : P ^ N ≤ 729) (hnum : ∀ t, 1 ≤ t → t < P ^ N → a 4 t = if zv_l1 P N t then nI (zv_cnt P N t) else -1) (x : Nat → Nat) (hx : ∀ i, i < 6 → a 12 i = nI (x i)) (hv : zv_vec P N x) : zm_Ev zt_get 2 121 [.ref 0, .ref 12] (zw_M g gl a al) (fun v w => v = some (.int (nI (zv_pt P N x))) ∧ w = (zw_M g gl a al)) := by
  obtain ⟨hP0, hP5⟩ := zv_P5 hPP
  have hx4 : ∀ i, i < 6 → x i ≤ 4 := fun i hi => by have := hv.1 i hi; omega
  have hff := zv_ff_ltP hP0 hv.1 6
  obtain ⟨hi1, hi2, hi3⟩ := zv_inv_ok P (by omega) hPP _ hff hv.2.2
  obtain ⟨-, hl1, hc1, hc2⟩ := zv_cdx_ok hPP hN6 hv
  refine zr_ev zt_M_pointOf rfl rfl ?_
  show zm_Run zt_get 1 zt_M_pointOf (0, [some (.ref 0), some (.ref 12), none, none, none, none], [], (zw_M g gl a al)) _
  refine zr_go (t := (1, [some (.ref 0), some (.ref 12), none, none, none, none], [.ref 12], (zw_M g gl a al))) 1 rfl ?_
  refine zr_call (t := (4, [some (.ref 0), some (.ref 12), none, none, none, none], [], (zw_M g gl a al))) rfl (Nat.le_of_ble_eq_true rfl : 1 ≤ 1) (zs_M_firstOf_12 g gl a al x hx hx4) ?_
  rintro _ _ ⟨rfl, rfl⟩
  show zm_Run zt_get 1 zt_M_pointOf (4, [some (.ref 0), some (.ref 12), none, none, none, none], [.int (nI (zv_ff x 6))], (zw_M g gl a al)) _
  refine zr_go (t := (7, [some (.ref 0), some (.ref 12), some (.int (nI (zv_ff x 6))), some (.int 1), none, none], [], (zw_M g gl a al))) 3 rfl ?_
  refine zr_loop (fun zq : Nat => (7, [some (.ref 0), some (.ref 12), some (.int (nI (zv_ff x 6))), some (.int (nI zq)), none, none], [], (zw_M g gl a al))) (fun zq => 1 ≤ zq ∧ zq ≤ zv_inv P (zv_ff x 6)) (fun zq => 5 - zq) ?_ 1 ⟨Nat.le_refl _, hi2⟩
  rintro b ⟨hb1, hb2⟩ ih
  try dsimp only at *
  have hfb : zv_ff x 6 * b ≤ 5 * 5 := Nat.mul_le_mul (by omega) (by omega)
  have hmf : zv_ff x 6 * b % P < P := Nat.mod_lt _ hP0
  refine zr_go (t := (8, [some (.ref 0), some (.ref 12), some (.int (nI (zv_ff x 6))), some (.int (nI b)), none, none], [.int (nI (zv_ff x 6))], (zw_M g gl a al))) 1 rfl ?_
  refine zr_ieq (x := nI (zv_ff x 6)) (y := 0) (zv_ff x 6) 0 rfl rfl (by omega) (by omega) (t := (29, [some (.ref 0), some (.ref 12), some (.int (nI (zv_ff x 6))), some (.int (nI b)), none, none], [], (zw_M g gl a al))) (f := (11, [some (.ref 0), some (.ref 12), some (.int (nI (zv_ff x 6))), some (.int (nI b)), none, none], [], (zw_M g gl a al))) rfl (fun h1 => ?_) (fun h1 => ?_)
  · skip
    exact absurd h1 hv.2.2
  · skip
    refine zr_go (t := (18, [some (.ref 0), some (.ref 12), some (.int (nI (zv_ff x 6))), some (.int (nI b)), none, none], [.int (g 0), .int ((nI (zv_ff x 6)) * (nI b))], (zw_M g gl a al))) 5 rfl ?_
    refine zr_cd (t := (19, [some (.ref 0), some (.ref 12), some (.int (nI (zv_ff x 6))), some (.int (nI b)), none, none], [.int (((nI (zv_ff x 6)) * (nI b)) - ((nI (zv_ff x 6)) * (nI b)) / (g 0) * (g 0))], (zw_M g gl a al))) rfl (zn_ne0 hP (by omega) (by omega)) ?_
    rw [show ((nI (zv_ff x 6)) * (nI b)) - ((nI (zv_ff x 6)) * (nI b)) / (g 0) * (g 0) = nI (((zv_ff x 6) * b) % P) from (zn_rem (zn_mul rfl rfl) hP (by omega) (by omega) (by omega))]
    refine zr_go (t := (20, [some (.ref 0), some (.ref 12), some (.int (nI (zv_ff x 6))), some (.int (nI b)), none, none], [.int 1, .int (nI (((zv_ff x 6) * b) % P))], (zw_M g gl a al))) 1 rfl ?_
    refine zr_ieq (x := nI (((zv_ff x 6) * b) % P)) (y := 1) (((zv_ff x 6) * b) % P) 1 rfl rfl (by omega) (by omega) (t := (29, [some (.ref 0), some (.ref 12), some (.int (nI (zv_ff x 6))), some (.int (nI b)), none, none], [], (zw_M g gl a al))) (f := (23, [some (.ref 0), some (.ref 12), some (.int (nI (zv_ff x 6))), some (.int (nI b)), none, none], [], (zw_M g gl a al))) rfl (fun h2 => ?_) (fun h2 => ?_)
    · skip
      have e1 : b = zv_inv P (zv_ff x 6) := Nat.le_antisymm hb2 (zv_inv_le P (by omega) _ (by omega) b (by omega) hb1 h2)
      refine zr_go (t := (35, [some (.ref 0), some (.ref 12), some (.int (nI (zv_ff x 6))), some (.int (nI b)), some (.int 0), some (.int 0)], [], (zw_M g gl a al))) 4 rfl ?_
      refine zr_loop (fun zq : Nat × Nat => (35, [some (.ref 0), some (.ref 12), some (.int (nI (zv_ff x 6))), some (.int (nI b)), some (.int (nI zq.2)), some (.int (nI zq.1))], [], (zw_M g gl a al))) (fun zq => zq.1 ≤ N ∧ zq.2 = zv_enc P (zv_nrm P x) zq.1) (fun zq => N - zq.1) ?_ (0, 0) ⟨by omega, rfl⟩
      rintro ⟨i, C⟩ ⟨hi, hC⟩ ih2
      try dsimp only at *
      refine zr_go (t := (41, [some (.ref 0), some (.ref 12), some (.int (nI (zv_ff x 6))), some (.int (nI b)), some (.int (nI C)), some (.int (nI i))], [.int (g 1), .int (nI i)], (zw_M g gl a al))) 3 rfl ?_
      refine zr_ige (x := nI i) (y := g 1) i N rfl hN (by omega) (by omega) (t := (71, [some (.ref 0), some (.ref 12), some (.int (nI (zv_ff x 6))), some (.int (nI b)), some (.int (nI C)), some (.int (nI i))], [], (zw_M g gl a al))) (f := (44, [some (.ref 0), some (.ref 12), some (.int (nI (zv_ff x 6))), some (.int (nI b)), some (.int (nI C)), some (.int (nI i))], [], (zw_M g gl a al))) rfl (fun h3 => ?_) (fun h3 => ?_)
      · skip
        have e2 : C = zv_cdx P N x := by rw [hC, show i = N by omega]; rfl
        refine zr_go (t := (72, [some (.ref 0), some (.ref 12), some (.int (nI (zv_ff x 6))), some (.int (nI b)), some (.int (nI C)), some (.int (nI i))], [.int (nI (zv_ff x 6))], (zw_M g gl a al))) 1 rfl ?_
        refine zr_ine (x := nI (zv_ff x 6)) (y := 0) (zv_ff x 6) 0 rfl rfl (by omega) (by omega) (t := (79, [some (.ref 0), some (.ref 12), some (.int (nI (zv_ff x 6))), some (.int (nI b)), some (.int (nI C)), some (.int (nI i))], [], (zw_M g gl a al))) (f := (75, [some (.ref 0), some (.ref 12), some (.int (nI (zv_ff x 6))), some (.int (nI b)), some (.int (nI C)), some (.int (nI i))], [], (zw_M g gl a al))) rfl (fun h4 => ?_) (fun h4 => ?_)
        · skip
          refine zr_go (t := (85, [some (.ref 0), some (.ref 12), some (.int (nI (zv_ff x 6))), some (.int (nI b)), some (.int (nI C)), some (.int (nI i))], [.int (nI C), .ref 4], (zw_M g gl a al))) 3 rfl ?_
          refine zr_cd (t := (86, [some (.ref 0), some (.ref 12), some (.int (nI (zv_ff x 6))), some (.int (nI b)), some (.int (nI C)), some (.int (nI i))], [.int ((a 4) (nI C).toNatClampNeg)], (zw_M g gl a al))) rfl (pk_in C 729 (by omega) rfl (by omega)) ?_
          rw [pk_cl (x := nI C) C rfl (by omega)]
          rw [show (a 4) C = nI (zv_pt P N x) from by rw [e2, hnum _ hc1 hc2, if_pos hl1]; rfl]
          exact zr_ret rfl trivial ⟨rfl, rfl⟩
        · skip
          exact absurd h4 hv.2.2
      · skip
        have hxi : x i * b ≤ 4 * 4 := Nat.mul_le_mul (hx4 i (by omega)) (by omega)
        refine zr_go (t := (54, [some (.ref 0), some (.ref 12), some (.int (nI (zv_ff x 6))), some (.int (nI b)), some (.int (nI C)), some (.int (nI i))], [.int (nI i), .ref 12, .int ((nI C) * (g 0))], (zw_M g gl a al))) 6 rfl ?_
        refine zr_cd (t := (55, [some (.ref 0), some (.ref 12), some (.int (nI (zv_ff x 6))), some (.int (nI b)), some (.int (nI C)), some (.int (nI i))], [.int ((a 12) (nI i).toNatClampNeg), .int ((nI C) * (g 0))], (zw_M g gl a al))) rfl (pk_in i 6 (by omega) rfl (by omega)) ?_
        rw [pk_cl (x := nI i) i rfl (by omega)]
        rw [show (a 12) i = nI (x i) from hx i (by omega)]
        refine zr_go (t := (61, [some (.ref 0), some (.ref 12), some (.int (nI (zv_ff x 6))), some (.int (nI b)), some (.int (nI C)), some (.int (nI i))], [.int (g 0), .int ((nI (x i)) * (nI b)), .int ((nI C) * (g 0))], (zw_M g gl a al))) 4 rfl ?_
        refine zr_cd (t := (62, [some (.ref 0), some (.ref 12), some (.int (nI (zv_ff x 6))), some (.int (nI b)), some (.int (nI C)), some (.int (nI i))], [.int (((nI (x i)) * (nI b)) - ((nI (x i)) * (nI b)) / (g 0) * (g 0)), .int ((nI C) * (g 0))], (zw_M g gl a al))) rfl (zn_ne0 hP (by omega) (by omega)) ?_
        rw [show ((nI (x i)) * (nI b)) - ((nI (x i)) * (nI b)) / (g 0) * (g 0) = nI (((x i) * b) % P) from (zn_rem (zn_mul rfl rfl) hP (by omega) (by omega) (by omega))]
        refine zr_go (t := (35, [some (.ref 0), some (.ref 12), some (.int (nI (zv_ff x 6))), some (.int (nI b)), some (.int (((nI C) * (g 0)) + (nI (((x i) * b) % P)))), some (.int ((nI i) + 1))], [], (zw_M g gl a al))) 4 rfl ?_
        rw [show (nI i) + 1 = nI (i + 1) from (zn_add rfl rfl)]
        rw [show ((nI C) * (g 0)) + (nI (((x i) * b) % P)) = nI ((C * P) + (((x i) * b) % P)) from (zn_add (zn_mul rfl hP) rfl)]
        exact ih2 (i + 1, C * P + x i * b % P) ⟨by omega, by rw [hC, e1]; rfl⟩ (by omega)
    · skip
      refine zr_go (t := (7, [some (.ref 0), some (.ref 12), some (.int (nI (zv_ff x 6))), some (.int ((nI b) + 1)), none, none], [], (zw_M g gl a al))) 2 rfl ?_
      rw [show (nI b) + 1 = nI (b + 1) from (zn_add rfl rfl)]
      exact ih (b + 1) ⟨by omega, by have : b ≠ zv_inv P (zv_ff x 6) := (fun q => h2 (by rw [q]; exact hi1)); omega⟩ (by omega)
/-- so many times one vector, and so many times another one -/
def zv_mx (P b d : Nat) (x y : Nat → Nat) : Nat → Nat := fun i => (x i * b + y i * d) % P
theorem zs_M_mix (g : Nat → Int32) (gl : Nat → Int64) (a : Nat → Nat → Int32) (al : Nat → Nat → Int64) (P N : Nat) (hP : g 0 = nI P) (hN : g 1 = nI N) (hPP : P = 2 ∨ P = 3 ∨ P = 5) (hN6 : N ≤ 6) (hA : P ^ N ≤ 729) (hnum : ∀ t, 1 ≤ t → t < P ^ N → a 4 t = if zv_l1 P N t then nI (zv_cnt P N t) else -1) (np : Nat) (y : Nat → Nat → Nat) (hR : zc_R g a np y) (p b q d : Nat) (hp : p < np) (hb : b ≤ 4) (hq : q < np) (hd : d ≤ 4) (hv : zv_vec P N (zv_mx P b d (y p) (y q))) : zm_Ev zt_get 3 127 [.ref 0, .int (nI p), .int (nI b), .int (nI q), .int (nI d)] (zw_M g gl a al) (fun v w => v = some (.int (nI (zv_pt P N (zv_mx P b d (y p) (y q))))) ∧ ∃ f, w = (zw_M g gl (va_up a 12 f) al)) := by
  obtain ⟨hP0, hP5⟩ := zv_P5 hPP
  obtain ⟨hnp, hnp1, hy, hy4⟩ := id hR
  refine zr_ev zt_M_mix rfl rfl ?_
  show zm_Run zt_get 2 zt_M_mix (0, [some (.ref 0), some (.int (nI p)), some (.int (nI b)), some (.int (nI q)), some (.int (nI d)), none], [], (zw_M g gl a al)) _
  refine zr_go (t := (3, [some (.ref 0), some (.int (nI p)), some (.int (nI b)), some (.int (nI q)), some (.int (nI d)), some (.int 0)], [], (zw_M g gl a al))) 2 rfl ?_
  refine zr_loop (fun zq : Nat × (Nat → Int32) => (3, [some (.ref 0), some (.int (nI p)), some (.int (nI b)), some (.int (nI q)), some (.int (nI d)), some (.int (nI zq.1))], [], (zw_M g gl (va_up a 12 zq.2) al))) (fun zq => zq.1 ≤ 6 ∧ ∀ k, k < zq.1 → zq.2 k = nI (zv_mx P b d (y p) (y q) k)) (fun zq => 6 - zq.1) ?_ (0, a 12) ⟨by omega, fun k h => absurd h (Nat.not_lt_zero k)⟩
  rintro ⟨i, f⟩ ⟨hi, hf⟩ ih
  try dsimp only at *
  refine zr_go (t := (7, [some (.ref 0), some (.int (nI p)), some (.int (nI b)), some (.int (nI q)), some (.int (nI d)), some (.int (nI i))], [.int 6, .int (nI i)], (zw_M g gl (va_up a 12 f) al))) 2 rfl ?_
  refine zr_ige (x := nI i) (y := 6) i 6 rfl rfl (by omega) (by omega) (t := (58, [some (.ref 0), some (.int (nI p)), some (.int (nI b)), some (.int (nI q)), some (.int (nI d)), some (.int (nI i))], [], (zw_M g gl (va_up a 12 f) al))) (f := (10, [some (.ref 0), some (.int (nI p)), some (.int (nI b)), some (.int (nI q)), some (.int (nI d)), some (.int (nI i))], [], (zw_M g gl (va_up a 12 f) al))) rfl (fun h1 => ?_) (fun h1 => ?_)
  · skip
    have e6 : i = 6 := by omega
    subst e6
    refine zr_go (t := (63, [some (.ref 0), some (.int (nI p)), some (.int (nI b)), some (.int (nI q)), some (.int (nI d)), some (.int (nI 6))], [.ref 12, .ref 0], (zw_M g gl (va_up a 12 f) al))) 3 rfl ?_
    refine zr_call (t := (66, [some (.ref 0), some (.int (nI p)), some (.int (nI b)), some (.int (nI q)), some (.int (nI d)), some (.int (nI 6))], [], (zw_M g gl (va_up a 12 f) al))) rfl (Nat.le_of_ble_eq_true rfl : 2 ≤ 2) (zs_M_pointOf g gl (va_up a 12 f) al P N hP hN hPP hN6 hA hnum (zv_mx P b d (y p) (y q)) hf hv) ?_
    rintro _ _ ⟨rfl, rfl⟩
    show zm_Run zt_get 2 zt_M_mix (66, [some (.ref 0), some (.int (nI p)), some (.int (nI b)), some (.int (nI q)), some (.int (nI d)), some (.int (nI 6))], [.int (nI (zv_pt P N (zv_mx P b d (y p) (y q))))], (zw_M g gl (va_up a 12 f) al)) _
    exact zr_ret rfl trivial ⟨rfl, f, rfl⟩
  · skip
    have h3 : y p i * b ≤ 4 * 4 := Nat.mul_le_mul (hy4 p i hp (by omega)) hb
    have h4 : y q i * d ≤ 4 * 4 := Nat.mul_le_mul (hy4 q i hq (by omega)) hd
    refine zr_go (t := (27, [some (.ref 0), some (.int (nI p)), some (.int (nI b)), some (.int (nI q)), some (.int (nI d)), some (.int (nI i))], [.int ((6 * (nI p)) + (nI i)), .ref 3, .int (nI i), .ref 12], (zw_M g gl (va_up a 12 f) al))) 10 rfl ?_
    refine zr_cd (t := (28, [some (.ref 0), some (.int (nI p)), some (.int (nI b)), some (.int (nI q)), some (.int (nI d)), some (.int (nI i))], [.int ((a 3) ((6 * (nI p)) + (nI i)).toNatClampNeg), .int (nI i), .ref 12], (zw_M g gl (va_up a 12 f) al))) rfl (pk_in ((6 * p) + i) 936 (by omega) (zn_add (zn_mul rfl rfl) rfl) (by omega)) ?_
    rw [pk_cl (x := (6 * (nI p)) + (nI i)) ((6 * p) + i) (zn_add (zn_mul rfl rfl) rfl) (by omega)]
    rw [show (a 3) ((6 * p) + i) = nI (y p i) from hy p i hp (by omega)]
    refine zr_go (t := (41, [some (.ref 0), some (.int (nI p)), some (.int (nI b)), some (.int (nI q)), some (.int (nI d)), some (.int (nI i))], [.int ((6 * (nI q)) + (nI i)), .ref 3, .int ((nI (y p i)) * (nI b)), .int (nI i), .ref 12], (zw_M g gl (va_up a 12 f) al))) 9 rfl ?_
    refine zr_cd (t := (42, [some (.ref 0), some (.int (nI p)), some (.int (nI b)), some (.int (nI q)), some (.int (nI d)), some (.int (nI i))], [.int ((a 3) ((6 * (nI q)) + (nI i)).toNatClampNeg), .int ((nI (y p i)) * (nI b)), .int (nI i), .ref 12], (zw_M g gl (va_up a 12 f) al))) rfl (pk_in ((6 * q) + i) 936 (by omega) (zn_add (zn_mul rfl rfl) rfl) (by omega)) ?_
    rw [pk_cl (x := (6 * (nI q)) + (nI i)) ((6 * q) + i) (zn_add (zn_mul rfl rfl) rfl) (by omega)]
    rw [show (a 3) ((6 * q) + i) = nI (y q i) from hy q i hq (by omega)]
    refine zr_go (t := (50, [some (.ref 0), some (.int (nI p)), some (.int (nI b)), some (.int (nI q)), some (.int (nI d)), some (.int (nI i))], [.int (g 0), .int (((nI (y p i)) * (nI b)) + ((nI (y q i)) * (nI d))), .int (nI i), .ref 12], (zw_M g gl (va_up a 12 f) al))) 5 rfl ?_
    refine zr_cd (t := (51, [some (.ref 0), some (.int (nI p)), some (.int (nI b)), some (.int (nI q)), some (.int (nI d)), some (.int (nI i))], [.int ((((nI (y p i)) * (nI b)) + ((nI (y q i)) * (nI d))) - (((nI (y p i)) * (nI b)) + ((nI (y q i)) * (nI d))) / (g 0) * (g 0)), .int (nI i), .ref 12], (zw_M g gl (va_up a 12 f) al))) rfl (zn_ne0 hP (by omega) (by omega)) ?_
    rw [show (((nI (y p i)) * (nI b)) + ((nI (y q i)) * (nI d))) - (((nI (y p i)) * (nI b)) + ((nI (y q i)) * (nI d))) / (g 0) * (g 0) = nI ((((y p i) * b) + ((y q i) * d)) % P) from (zn_rem (zn_add (zn_mul rfl rfl) (zn_mul rfl rfl)) hP (by omega) (by omega) (by omega))]
    refine zr_cd (t := (52, [some (.ref 0), some (.int (nI p)), some (.int (nI b)), some (.int (nI q)), some (.int (nI d)), some (.int (nI i))], [], (zw_M g gl (va_up a 12 (upd f ((nI i).toNatClampNeg) (nI ((((y p i) * b) + ((y q i) * d)) % P)))) al))) rfl (pk_in i 6 (by omega) rfl (by omega)) ?_
    rw [pk_cl (x := nI i) i rfl (by omega)]
    refine zr_go (t := (3, [some (.ref 0), some (.int (nI p)), some (.int (nI b)), some (.int (nI q)), some (.int (nI d)), some (.int ((nI i) + 1))], [], (zw_M g gl (va_up a 12 (upd f i (nI ((((y p i) * b) + ((y q i) * d)) % P)))) al))) 2 rfl ?_
    rw [show (nI i) + 1 = nI (i + 1) from (zn_add rfl rfl)]
    exact ih (i + 1, (upd f i (nI ((((y p i) * b) + ((y q i) * d)) % P)))) ⟨by omega, lt_s (fun k hk => (pk_un (Nat.ne_of_lt hk)).trans (hf k hk)) pk_us⟩ (by omega)
/-- all the other points of the line through two of them are on -/
def zv_jn (P N : Nat) (y : Nat → Nat → Nat) (o : Nat → Bool) (p q : Nat) : Bool := (p != q && o p && o q) && zA (fun t => o (zv_pt P N (zv_mx P 1 (t + 1) (y p) (y q)))) (P - 1)
theorem zs_M_isJoined (g : Nat → Int32) (gl : Nat → Int64) (a : Nat → Nat → Int32) (al : Nat → Nat → Int64) (P N : Nat) (hP : g 0 = nI P) (hN : g 1 = nI N) (hPP : P = 2 ∨ P = 3 ∨ P = 5) (hN6 : N ≤ 6) (hA : P ^ N ≤ 729) (hnum : ∀ t, 1 ≤ t → t < P ^ N → a 4 t = if zv_l1 P N t then nI (zv_cnt P N t) else -1) (np : Nat) (y : Nat → Nat → Nat) (hR : zc_R g a np y) (o : Nat → Bool) (hO : zc_O a np o) (p q : Nat) (hp : p < np) (hq : q < np) (hv : p ≠ q → ∀ b, 1 ≤ b → b < P → zv_vec P N (zv_mx P 1 b (y p) (y q)) ∧ zv_pt P N (zv_mx P 1 b (y p) (y q)) < np) : zm_Ev zt_get 4 128 [.ref 0, .int (nI p), .int (nI q)] (zw_M g gl a al) (fun v w => v = some (.int (nI (zv_jn P N y o p q).toNat)) ∧ ∃ f, w = (zw_M g gl (va_up a 12 f) al)) := by
  obtain ⟨hP0, hP5⟩ := zv_P5 hPP
  obtain ⟨hnp, hnp1, hy, hy4⟩ := id hR
  refine zr_ev zt_M_isJoined rfl rfl ?_
  show zm_Run zt_get 3 zt_M_isJoined (0, [some (.ref 0), some (.int (nI p)), some (.int (nI q)), none, none], [], (zw_M g gl a al)) _
  have tail : ∀ b0 : Bool, b0 = (p != q && o p && o q) → zm_Run zt_get 3 zt_M_isJoined (29, [some (.ref 0), some (.int (nI p)), some (.int (nI q)), some (.int (nI b0.toNat)), none], [], (zw_M g gl a al)) (fun v w => v = some (.int (nI (zv_jn P N y o p q).toNat)) ∧ ∃ f, w = (zw_M g gl (va_up a 12 f) al)) := by
    intro b0 hb0
    refine zr_go (t := (32, [some (.ref 0), some (.int (nI p)), some (.int (nI q)), some (.int (nI b0.toNat)), some (.int 1)], [], (zw_M g gl a al))) 2 rfl ?_
    refine zr_loop (fun zq : Nat × Bool × (Nat → Int32) => (32, [some (.ref 0), some (.int (nI p)), some (.int (nI q)), some (.int (nI zq.2.1.toNat)), some (.int (nI zq.1))], [], (zw_M g gl (va_up a 12 zq.2.2) al))) (fun zq => 1 ≤ zq.1 ∧ zq.1 ≤ P ∧ zq.2.1 = (b0 && zA (fun t => o (zv_pt P N (zv_mx P 1 (t + 1) (y p) (y q)))) (zq.1 - 1))) (fun zq => P - zq.1) ?_ (1, b0, a 12) ⟨Nat.le_refl _, by omega, by simp [zA]⟩
    rintro ⟨k, b, f⟩ ⟨hk1, hk, hb⟩ ih
    try dsimp only at *
    refine zr_go (t := (38, [some (.ref 0), some (.int (nI p)), some (.int (nI q)), some (.int (nI b.toNat)), some (.int (nI k))], [.int (g 0), .int (nI k)], (zw_M g gl (va_up a 12 f) al))) 3 rfl ?_
    refine zr_ige (x := nI k) (y := g 0) k P rfl hP (by omega) (by omega) (t := (66, [some (.ref 0), some (.int (nI p)), some (.int (nI q)), some (.int (nI b.toNat)), some (.int (nI k))], [], (zw_M g gl (va_up a 12 f) al))) (f := (41, [some (.ref 0), some (.int (nI p)), some (.int (nI q)), some (.int (nI b.toNat)), some (.int (nI k))], [], (zw_M g gl (va_up a 12 f) al))) rfl (fun h1 => ?_) (fun h1 => ?_)
    · skip
      refine zr_go (t := (67, [some (.ref 0), some (.int (nI p)), some (.int (nI q)), some (.int (nI b.toNat)), some (.int (nI k))], [.int (nI b.toNat)], (zw_M g gl (va_up a 12 f) al))) 1 rfl ?_
      exact zr_ret rfl (zb_ok b) ⟨by rw [hb, hb0, show k = P by omega]; rfl, f, rfl⟩
    · skip
      refine zr_go (t := (42, [some (.ref 0), some (.int (nI p)), some (.int (nI q)), some (.int (nI b.toNat)), some (.int (nI k))], [.int (nI b.toNat)], (zw_M g gl (va_up a 12 f) al))) 1 rfl ?_
      have hb1 := zb_le b
      refine zr_ieq (x := nI b.toNat) (y := 0) b.toNat 0 rfl rfl (by omega) (by omega) (t := (66, [some (.ref 0), some (.int (nI p)), some (.int (nI q)), some (.int (nI b.toNat)), some (.int (nI k))], [], (zw_M g gl (va_up a 12 f) al))) (f := (45, [some (.ref 0), some (.int (nI p)), some (.int (nI q)), some (.int (nI b.toNat)), some (.int (nI k))], [], (zw_M g gl (va_up a 12 f) al))) rfl (fun h2 => ?_) (fun h2 => ?_)
      · skip
        refine zr_go (t := (67, [some (.ref 0), some (.int (nI p)), some (.int (nI q)), some (.int (nI b.toNat)), some (.int (nI k))], [.int (nI b.toNat)], (zw_M g gl (va_up a 12 f) al))) 1 rfl ?_
        have e0 := zb_0 h2
        exact zr_ret rfl (zb_ok b) ⟨by rw [e0] at hb ⊢; rw [show zv_jn P N y o p q = false from (Bool.and_eq_false_iff.mp hb.symm).elim (fun e => by unfold zv_jn; rw [← hb0, e]; rfl) (fun e => by unfold zv_jn; rw [zA_no e (by omega), Bool.and_false])], f, rfl⟩
      · skip
        have hbt := zb_1 h2
        have hpq : p ≠ q := by rw [hbt] at hb; have h9 := (Bool.and_eq_true_iff.mp hb.symm).1; rw [hb0] at h9; simp at h9; exact h9.1.1
        obtain ⟨hv1, hv2⟩ := hv hpq k hk1 h1
        refine zr_go (t := (55, [some (.ref 0), some (.int (nI p)), some (.int (nI q)), some (.int (nI b.toNat)), some (.int (nI k))], [.int (nI k), .int (nI q), .int 1, .int (nI p), .ref 0, .ref 5], (zw_M g gl (va_up a 12 f) al))) 7 rfl ?_
        refine zr_call (t := (58, [some (.ref 0), some (.int (nI p)), some (.int (nI q)), some (.int (nI b.toNat)), some (.int (nI k))], [.ref 5], (zw_M g gl (va_up a 12 f) al))) rfl (Nat.le_of_ble_eq_true rfl : 3 ≤ 3) (zs_M_mix g gl (va_up a 12 f) al P N hP hN hPP hN6 hA hnum np y hR p 1 q k hp (by omega) hq (by omega) hv1) ?_
        rintro _ _ ⟨rfl, e1, rfl⟩
        show zm_Run zt_get 3 zt_M_isJoined (58, [some (.ref 0), some (.int (nI p)), some (.int (nI q)), some (.int (nI b.toNat)), some (.int (nI k))], [.int (nI (zv_pt P N (zv_mx P 1 k (y p) (y q)))), .ref 5], (zw_M g gl (va_up a 12 e1) al)) _
        refine zr_cd (t := (59, [some (.ref 0), some (.int (nI p)), some (.int (nI q)), some (.int (nI b.toNat)), some (.int (nI k))], [.int ((a 5) (nI (zv_pt P N (zv_mx P 1 k (y p) (y q)))).toNatClampNeg)], (zw_M g gl (va_up a 12 e1) al))) rfl (pk_in (zv_pt P N (zv_mx P 1 k (y p) (y q))) 156 (by omega) rfl (by omega)) ?_
        rw [pk_cl (x := nI (zv_pt P N (zv_mx P 1 k (y p) (y q)))) (zv_pt P N (zv_mx P 1 k (y p) (y q))) rfl (by omega)]
        rw [show (a 5) (zv_pt P N (zv_mx P 1 k (y p) (y q))) = nI ((o (zv_pt P N (zv_mx P 1 k (y p) (y q)))).toNat) from hO (zv_pt P N (zv_mx P 1 k (y p) (y q))) (by omega)]
        refine zr_go (t := (32, [some (.ref 0), some (.int (nI p)), some (.int (nI q)), some (.int (nI ((o (zv_pt P N (zv_mx P 1 k (y p) (y q)))).toNat))), some (.int ((nI k) + 1))], [], (zw_M g gl (va_up a 12 e1) al))) 3 rfl ?_
        rw [show (nI k) + 1 = nI (k + 1) from (zn_add rfl rfl)]
        exact ih (k + 1, o (zv_pt P N (zv_mx P 1 k (y p) (y q))), e1) ⟨by omega, by omega, by rw [hbt] at hb; rw [show k + 1 - 1 = (k - 1) + 1 by omega]; show _ = (b0 && (zA _ (k - 1) && _)); rw [← Bool.and_assoc, ← hb]; dsimp only; rw [show k - 1 + 1 = k by omega]; rfl⟩ (by omega)
  refine zr_go (t := (2, [some (.ref 0), some (.int (nI p)), some (.int (nI q)), none, none], [.int (nI q), .int (nI p)], (zw_M g gl a al))) 2 rfl ?_
  refine zr_ieq (x := nI p) (y := nI q) p q rfl rfl (by omega) (by omega) (t := (27, [some (.ref 0), some (.int (nI p)), some (.int (nI q)), none, none], [], (zw_M g gl a al))) (f := (5, [some (.ref 0), some (.int (nI p)), some (.int (nI q)), none, none], [], (zw_M g gl a al))) rfl (fun h5 => ?_) (fun h5 => ?_)
  · skip
    refine zr_go (t := (29, [some (.ref 0), some (.int (nI p)), some (.int (nI q)), some (.int 0), none], [], (zw_M g gl a al))) 2 rfl ?_
    exact tail false (by simp [h5])
  · skip
    refine zr_go (t := (10, [some (.ref 0), some (.int (nI p)), some (.int (nI q)), none, none], [.int (nI p), .ref 5], (zw_M g gl a al))) 3 rfl ?_
    refine zr_cd (t := (11, [some (.ref 0), some (.int (nI p)), some (.int (nI q)), none, none], [.int ((a 5) (nI p).toNatClampNeg)], (zw_M g gl a al))) rfl (pk_in p 156 (by omega) rfl (by omega)) ?_
    rw [pk_cl (x := nI p) p rfl (by omega)]
    rw [show (a 5) p = nI ((o p).toNat) from hO p (by omega)]
    have ho1 := zb_le (o p)
    refine zr_ieq (x := nI ((o p).toNat)) (y := 0) ((o p).toNat) 0 rfl rfl (by omega) (by omega) (t := (27, [some (.ref 0), some (.int (nI p)), some (.int (nI q)), none, none], [], (zw_M g gl a al))) (f := (14, [some (.ref 0), some (.int (nI p)), some (.int (nI q)), none, none], [], (zw_M g gl a al))) rfl (fun h6 => ?_) (fun h6 => ?_)
    · skip
      refine zr_go (t := (29, [some (.ref 0), some (.int (nI p)), some (.int (nI q)), some (.int 0), none], [], (zw_M g gl a al))) 2 rfl ?_
      exact tail false (by simp [zb_0 h6])
    · skip
      refine zr_go (t := (19, [some (.ref 0), some (.int (nI p)), some (.int (nI q)), none, none], [.int (nI q), .ref 5], (zw_M g gl a al))) 3 rfl ?_
      refine zr_cd (t := (20, [some (.ref 0), some (.int (nI p)), some (.int (nI q)), none, none], [.int ((a 5) (nI q).toNatClampNeg)], (zw_M g gl a al))) rfl (pk_in q 156 (by omega) rfl (by omega)) ?_
      rw [pk_cl (x := nI q) q rfl (by omega)]
      rw [show (a 5) q = nI ((o q).toNat) from hO q (by omega)]
      have ho2 := zb_le (o q)
      refine zr_ieq (x := nI ((o q).toNat)) (y := 0) ((o q).toNat) 0 rfl rfl (by omega) (by omega) (t := (27, [some (.ref 0), some (.int (nI p)), some (.int (nI q)), none, none], [], (zw_M g gl a al))) (f := (23, [some (.ref 0), some (.int (nI p)), some (.int (nI q)), none, none], [], (zw_M g gl a al))) rfl (fun h7 => ?_) (fun h7 => ?_)
      · skip
        refine zr_go (t := (29, [some (.ref 0), some (.int (nI p)), some (.int (nI q)), some (.int 0), none], [], (zw_M g gl a al))) 2 rfl ?_
        exact tail false (by simp [zb_0 h7])
      · skip
        refine zr_go (t := (29, [some (.ref 0), some (.int (nI p)), some (.int (nI q)), some (.int 1), none], [], (zw_M g gl a al))) 3 rfl ?_
        exact tail true (by simp [h5, zb_1 h6, zb_1 h7])
end
section
/-! the reference: how a line and a plane are laid out (written by wip/whole/gen_m6.py) -/
/-- some one of the first n -/
def zE (f : Nat → Bool) : Nat → Bool
  | 0 => false
  | n + 1 => zE f n || f n
/-- where a number goes among the first n of f: behind the last one that isn't greater -/
def zv_pos (f : Nat → Nat) (p : Nat) : Nat → Nat
  | 0 => 0
  | n + 1 => if f n ≤ p then n + 1 else zv_pos f p n
def zv_ins (f : Nat → Nat) (p n k : Nat) : Nat := if k < zv_pos f p n then f k else if k = zv_pos f p n then p else f (k - 1)
theorem zv_pos_le (f : Nat → Nat) (p n : Nat) : zv_pos f p n ≤ n := by
  induction n with
  | zero => exact Nat.le_refl _
  | succ n ih => unfold zv_pos; split <;> omega
theorem zv_ins_lt {f : Nat → Nat} {p n B : Nat} (h : ∀ k, k < n → f k < B) (hp : p < B) : ∀ k, k < n + 1 → zv_ins f p n k < B := by
  intro k hk
  have h1 := zv_pos_le f p n
  unfold zv_ins
  split
  · exact h k (by omega)
  · split
    · exact hp
    · exact h (k - 1) (by omega)
theorem zr_fst2 {get : Nat → Option zm_M} {d : Nat} {M : zm_M} {Q : Option Value → List zm_E → Prop} {s t : zm_S} (h : s = t) (k : zm_Run get d M t Q) : zm_Run get d M s Q := h ▸ k
theorem zs_M_addTo (g : Nat → Int32) (gl : Nat → Int64) (a : Nat → Nat → Int32) (al : Nat → Nat → Int64) (p : Nat) (hp : p < 1000) (n : Nat) (f : Nat → Nat) (hn : g 25 = nI n) (hf : ∀ k, k < n → a 13 k = nI (f k)) (hn31 : n < 31) (hf1 : ∀ k, k < n → f k < 1000) : zm_Ev zt_get 1 130 [.ref 0, .int (nI p)] (zw_M g gl a al) (fun v w => v = none ∧ ∃ h, w = (zw_M (upd g 25 (nI (n + 1))) gl (va_up a 13 h) al) ∧ ∀ k, k < n + 1 → h k = nI (zv_ins f p n k)) := by
  refine zr_ev zt_M_addTo rfl rfl ?_
  show zm_Run zt_get 0 zt_M_addTo (0, [some (.ref 0), some (.int (nI p)), none], [], (zw_M g gl a al)) _
  refine zr_go (t := (5, [some (.ref 0), some (.int (nI p)), some (.int (g 25))], [], (zw_M g gl a al))) 3 rfl ?_
  refine zr_fst2 (t := (5, [some (.ref 0), some (.int (nI p)), some (.int (nI n))], [], (zw_M g gl a al))) (by rw [hn]) ?_
  refine zr_loop (fun zq : Nat × (Nat → Int32) => (5, [some (.ref 0), some (.int (nI p)), some (.int (nI zq.1))], [], (zw_M g gl (va_up a 13 zq.2) al))) (fun zq => zq.1 ≤ n ∧ zv_pos f p zq.1 = zv_pos f p n ∧ (∀ t, t < zq.1 → zq.2 t = nI (f t)) ∧ ∀ t, zq.1 < t → t ≤ n → zq.2 t = nI (f (t - 1))) (fun zq => zq.1) ?_ (n, a 13) ⟨Nat.le_refl _, rfl, hf, fun t h1 h2 => absurd h2 (by omega)⟩
  rintro ⟨k, h⟩ ⟨hk, hpos, hh1, hh2⟩ ih
  try dsimp only at *
  refine zr_go (t := (6, [some (.ref 0), some (.int (nI p)), some (.int (nI k))], [.int (nI k)], (zw_M g gl (va_up a 13 h) al))) 1 rfl ?_
  refine zr_ile (x := nI k) (y := 0) k 0 rfl rfl (by omega) (by omega) (t := (41, [some (.ref 0), some (.int (nI p)), some (.int (nI k))], [], (zw_M g gl (va_up a 13 h) al))) (f := (9, [some (.ref 0), some (.int (nI p)), some (.int (nI k))], [], (zw_M g gl (va_up a 13 h) al))) rfl (fun h1 => ?_) (fun h1 => ?_)
  · skip
    have e1 : zv_pos f p n = k := by rw [← hpos]; rw [show k = 0 by omega]; rfl
    refine zr_go (t := (47, [some (.ref 0), some (.int (nI p)), some (.int (nI k))], [.int (nI p), .int (nI k), .ref 13], (zw_M g gl (va_up a 13 h) al))) 4 rfl ?_
    refine zr_cd (t := (48, [some (.ref 0), some (.int (nI p)), some (.int (nI k))], [], (zw_M g gl (va_up a 13 (upd h ((nI k).toNatClampNeg) (nI p))) al))) rfl (pk_in k 31 (by omega) rfl (by omega)) ?_
    rw [pk_cl (x := (nI k)) k rfl (by omega)]
    refine zr_go (t := (58, [some (.ref 0), some (.int (nI p)), some (.int (nI k))], [], (zw_M (upd g 25 ((g 25) + 1)) gl (va_up a 13 (upd h k (nI p))) al))) 6 rfl ?_
    rw [show (g 25) + 1 = nI (n + 1) from (zn_add hn rfl)]
    exact zr_ret rfl trivial ⟨rfl, (upd h k (nI p)), rfl, fun t ht => if q1 : t < k then (pk_un (by omega)).trans ((hh1 t q1).trans (by unfold zv_ins; rw [e1, if_pos q1])) else if q2 : t = k then by subst q2; exact pk_us.trans (by unfold zv_ins; rw [e1, if_neg q1, if_pos rfl]) else (pk_un q2).trans ((hh2 t (by omega) (by omega)).trans (by unfold zv_ins; rw [e1, if_neg q1, if_neg q2]))⟩
  · skip
    have hb1 := hf1 (k - 1) (by omega)
    refine zr_go (t := (16, [some (.ref 0), some (.int (nI p)), some (.int (nI k))], [.int ((nI k) - 1), .ref 13], (zw_M g gl (va_up a 13 h) al))) 5 rfl ?_
    refine zr_cd (t := (17, [some (.ref 0), some (.int (nI p)), some (.int (nI k))], [.int (h ((nI k) - 1).toNatClampNeg)], (zw_M g gl (va_up a 13 h) al))) rfl (pk_in (k - 1) 31 (by omega) (zn_sub rfl rfl (by omega)) (by omega)) ?_
    rw [pk_cl (x := ((nI k) - 1)) (k - 1) (zn_sub rfl rfl (by omega)) (by omega)]
    rw [show h (k - 1) = nI (f (k - 1)) from hh1 (k - 1) (by omega)]
    refine zr_go (t := (18, [some (.ref 0), some (.int (nI p)), some (.int (nI k))], [.int (nI p), .int (nI (f (k - 1)))], (zw_M g gl (va_up a 13 h) al))) 1 rfl ?_
    refine zr_ile (x := nI (f (k - 1))) (y := nI p) (f (k - 1)) p rfl rfl (by omega) (by omega) (t := (41, [some (.ref 0), some (.int (nI p)), some (.int (nI k))], [], (zw_M g gl (va_up a 13 h) al))) (f := (21, [some (.ref 0), some (.int (nI p)), some (.int (nI k))], [], (zw_M g gl (va_up a 13 h) al))) rfl (fun h2 => ?_) (fun h2 => ?_)
    · skip
      have e1 : zv_pos f p n = k := by rw [← hpos]; rw [show k = (k - 1) + 1 by omega]; unfold zv_pos; rw [if_pos h2]
      refine zr_go (t := (47, [some (.ref 0), some (.int (nI p)), some (.int (nI k))], [.int (nI p), .int (nI k), .ref 13], (zw_M g gl (va_up a 13 h) al))) 4 rfl ?_
      refine zr_cd (t := (48, [some (.ref 0), some (.int (nI p)), some (.int (nI k))], [], (zw_M g gl (va_up a 13 (upd h ((nI k).toNatClampNeg) (nI p))) al))) rfl (pk_in k 31 (by omega) rfl (by omega)) ?_
      rw [pk_cl (x := (nI k)) k rfl (by omega)]
      refine zr_go (t := (58, [some (.ref 0), some (.int (nI p)), some (.int (nI k))], [], (zw_M (upd g 25 ((g 25) + 1)) gl (va_up a 13 (upd h k (nI p))) al))) 6 rfl ?_
      rw [show (g 25) + 1 = nI (n + 1) from (zn_add hn rfl)]
      exact zr_ret rfl trivial ⟨rfl, (upd h k (nI p)), rfl, fun t ht => if q1 : t < k then (pk_un (by omega)).trans ((hh1 t q1).trans (by unfold zv_ins; rw [e1, if_pos q1])) else if q2 : t = k then by subst q2; exact pk_us.trans (by unfold zv_ins; rw [e1, if_neg q1, if_pos rfl]) else (pk_un q2).trans ((hh2 t (by omega) (by omega)).trans (by unfold zv_ins; rw [e1, if_neg q1, if_neg q2]))⟩
    · skip
      refine zr_go (t := (33, [some (.ref 0), some (.int (nI p)), some (.int (nI k))], [.int ((nI k) - 1), .ref 13, .int (nI k), .ref 13], (zw_M g gl (va_up a 13 h) al))) 8 rfl ?_
      refine zr_cd (t := (34, [some (.ref 0), some (.int (nI p)), some (.int (nI k))], [.int (h ((nI k) - 1).toNatClampNeg), .int (nI k), .ref 13], (zw_M g gl (va_up a 13 h) al))) rfl (pk_in (k - 1) 31 (by omega) (zn_sub rfl rfl (by omega)) (by omega)) ?_
      rw [pk_cl (x := ((nI k) - 1)) (k - 1) (zn_sub rfl rfl (by omega)) (by omega)]
      rw [show h (k - 1) = nI (f (k - 1)) from hh1 (k - 1) (by omega)]
      refine zr_cd (t := (35, [some (.ref 0), some (.int (nI p)), some (.int (nI k))], [], (zw_M g gl (va_up a 13 (upd h ((nI k).toNatClampNeg) (nI (f (k - 1))))) al))) rfl (pk_in k 31 (by omega) rfl (by omega)) ?_
      rw [pk_cl (x := (nI k)) k rfl (by omega)]
      refine zr_go (t := (5, [some (.ref 0), some (.int (nI p)), some (.int ((nI k) + (-1)))], [], (zw_M g gl (va_up a 13 (upd h k (nI (f (k - 1))))) al))) 2 rfl ?_
      rw [show (nI k) + (-1) = nI (k - 1) from (zn_dec rfl (by omega))]
      exact ih (k - 1, (upd h k (nI (f (k - 1))))) ⟨by omega, by rw [← hpos, show zv_pos f p k = zv_pos f p ((k - 1) + 1) from by rw [show k - 1 + 1 = k by omega]]; unfold zv_pos; rw [if_neg (by omega)]; cases k - 1 <;> rfl, fun t ht => (pk_un (by omega)).trans (hh1 t (by omega)), fun t h5 h6 => if e : t = k then by subst e; exact pk_us else (pk_un e).trans (hh2 t (by omega) h6)⟩ (by omega)
theorem zs_M_isIn (g : Nat → Int32) (gl : Nat → Int64) (a : Nat → Nat → Int32) (al : Nat → Nat → Int64) (p : Nat) (hp : p < 1000) (n : Nat) (f : Nat → Nat) (hn : g 25 = nI n) (hf : ∀ k, k < n → a 13 k = nI (f k)) (hn31 : n ≤ 31) (hf1 : ∀ k, k < n → f k < 1000) : zm_Ev zt_get 1 131 [.ref 0, .int (nI p)] (zw_M g gl a al) (fun v w => v = some (.int (nI (zE (fun k => f k == p) n).toNat)) ∧ w = (zw_M g gl a al)) := by
  refine zr_ev zt_M_isIn rfl rfl ?_
  show zm_Run zt_get 0 zt_M_isIn (0, [some (.ref 0), some (.int (nI p)), none, none], [], (zw_M g gl a al)) _
  refine zr_go (t := (4, [some (.ref 0), some (.int (nI p)), some (.int 0), some (.int 0)], [], (zw_M g gl a al))) 4 rfl ?_
  refine zr_loop (fun zq : Nat × Bool => (4, [some (.ref 0), some (.int (nI p)), some (.int (nI zq.2.toNat)), some (.int (nI zq.1))], [], (zw_M g gl a al))) (fun zq => zq.1 ≤ n ∧ zq.2 = zE (fun t => f t == p) zq.1) (fun zq => n - zq.1) ?_ (0, false) ⟨by omega, rfl⟩
  rintro ⟨k, b⟩ ⟨hk, hb⟩ ih
  try dsimp only at *
  refine zr_go (t := (9, [some (.ref 0), some (.int (nI p)), some (.int (nI b.toNat)), some (.int (nI k))], [.int (g 25), .int (nI k)], (zw_M g gl a al))) 3 rfl ?_
  refine zr_ige (x := nI k) (y := g 25) k n rfl hn (by omega) (by omega) (t := (38, [some (.ref 0), some (.int (nI p)), some (.int (nI b.toNat)), some (.int (nI k))], [], (zw_M g gl a al))) (f := (12, [some (.ref 0), some (.int (nI p)), some (.int (nI b.toNat)), some (.int (nI k))], [], (zw_M g gl a al))) rfl (fun h1 => ?_) (fun h1 => ?_)
  · skip
    refine zr_go (t := (39, [some (.ref 0), some (.int (nI p)), some (.int (nI b.toNat)), some (.int (nI k))], [.int (nI b.toNat)], (zw_M g gl a al))) 1 rfl ?_
    exact zr_ret rfl (zb_ok b) ⟨by rw [hb, show k = n by omega], rfl⟩
  · skip
    refine zr_go (t := (13, [some (.ref 0), some (.int (nI p)), some (.int (nI b.toNat)), some (.int (nI k))], [.int (nI b.toNat)], (zw_M g gl a al))) 1 rfl ?_
    have hb1 := zb_le b
    have hb2 := hf1 k (by omega)
    refine zr_ine (x := nI b.toNat) (y := 0) b.toNat 0 rfl rfl (by omega) (by omega) (t := (26, [some (.ref 0), some (.int (nI p)), some (.int (nI b.toNat)), some (.int (nI k))], [], (zw_M g gl a al))) (f := (16, [some (.ref 0), some (.int (nI p)), some (.int (nI b.toNat)), some (.int (nI k))], [], (zw_M g gl a al))) rfl (fun h2 => ?_) (fun h2 => ?_)
    · skip
      refine zr_go (t := (4, [some (.ref 0), some (.int (nI p)), some (.int 1), some (.int ((nI k) + 1))], [], (zw_M g gl a al))) 5 rfl ?_
      rw [show some (Value.int 1) = some (Value.int (nI (true).toNat)) from rfl]
      rw [show (nI k) + 1 = nI (k + 1) from (zn_add rfl rfl)]
      exact ih (k + 1, true) ⟨by omega, by show true = (zE _ k || _); rw [← hb, zb_1 h2]; rfl⟩ (by omega)
    · skip
      refine zr_go (t := (21, [some (.ref 0), some (.int (nI p)), some (.int (nI b.toNat)), some (.int (nI k))], [.int (nI k), .ref 13], (zw_M g gl a al))) 3 rfl ?_
      refine zr_cd (t := (22, [some (.ref 0), some (.int (nI p)), some (.int (nI b.toNat)), some (.int (nI k))], [.int ((a 13) (nI k).toNatClampNeg)], (zw_M g gl a al))) rfl (pk_in k 31 (by omega) rfl (by omega)) ?_
      rw [pk_cl (x := (nI k)) k rfl (by omega)]
      rw [show (a 13) k = nI (f k) from hf k (by omega)]
      refine zr_go (t := (23, [some (.ref 0), some (.int (nI p)), some (.int (nI b.toNat)), some (.int (nI k))], [.int (nI p), .int (nI (f k))], (zw_M g gl a al))) 1 rfl ?_
      refine zr_ine (x := nI (f k)) (y := nI p) (f k) p rfl rfl (by omega) (by omega) (t := (30, [some (.ref 0), some (.int (nI p)), some (.int (nI b.toNat)), some (.int (nI k))], [], (zw_M g gl a al))) (f := (26, [some (.ref 0), some (.int (nI p)), some (.int (nI b.toNat)), some (.int (nI k))], [], (zw_M g gl a al))) rfl (fun h3 => ?_) (fun h3 => ?_)
      · skip
        refine zr_go (t := (4, [some (.ref 0), some (.int (nI p)), some (.int 0), some (.int ((nI k) + 1))], [], (zw_M g gl a al))) 4 rfl ?_
        rw [show some (Value.int 0) = some (Value.int (nI (false).toNat)) from rfl]
        rw [show (nI k) + 1 = nI (k + 1) from (zn_add rfl rfl)]
        exact ih (k + 1, false) ⟨by omega, by show false = (zE _ k || _); rw [← hb, zb_0 h2]; simp [h3]⟩ (by omega)
      · skip
        refine zr_go (t := (4, [some (.ref 0), some (.int (nI p)), some (.int 1), some (.int ((nI k) + 1))], [], (zw_M g gl a al))) 5 rfl ?_
        rw [show some (Value.int 1) = some (Value.int (nI (true).toNat)) from rfl]
        rw [show (nI k) + 1 = nI (k + 1) from (zn_add rfl rfl)]
        exact ih (k + 1, true) ⟨by omega, by show true = (zE _ k || _); rw [← hb, zb_0 h2]; simp [h3]⟩ (by omega)
theorem zs_M_areOn (g : Nat → Int32) (gl : Nat → Int64) (a : Nat → Nat → Int32) (al : Nat → Nat → Int64) (np : Nat) (hnp1 : np ≤ 156) (o : Nat → Bool) (hO : zc_O a np o) (n : Nat) (f : Nat → Nat) (hn : g 25 = nI n) (hf : ∀ k, k < n → a 13 k = nI (f k)) (hn31 : n ≤ 31) (hf1 : ∀ k, k < n → f k < np) : zm_Ev zt_get 1 134 [.ref 0] (zw_M g gl a al) (fun v w => v = some (.int (nI (zA (fun k => o (f k)) n).toNat)) ∧ w = (zw_M g gl a al)) := by
  refine zr_ev zt_M_areOn rfl rfl ?_
  show zm_Run zt_get 0 zt_M_areOn (0, [some (.ref 0), none, none], [], (zw_M g gl a al)) _
  refine zr_go (t := (4, [some (.ref 0), some (.int 1), some (.int 0)], [], (zw_M g gl a al))) 4 rfl ?_
  refine zr_loop (fun zq : Nat × Bool => (4, [some (.ref 0), some (.int (nI zq.2.toNat)), some (.int (nI zq.1))], [], (zw_M g gl a al))) (fun zq => zq.1 ≤ n ∧ zq.2 = zA (fun t => o (f t)) zq.1) (fun zq => n - zq.1) ?_ (0, true) ⟨by omega, rfl⟩
  rintro ⟨k, b⟩ ⟨hk, hb⟩ ih
  try dsimp only at *
  refine zr_go (t := (9, [some (.ref 0), some (.int (nI b.toNat)), some (.int (nI k))], [.int (g 25), .int (nI k)], (zw_M g gl a al))) 3 rfl ?_
  refine zr_ige (x := nI k) (y := g 25) k n rfl hn (by omega) (by omega) (t := (42, [some (.ref 0), some (.int (nI b.toNat)), some (.int (nI k))], [], (zw_M g gl a al))) (f := (12, [some (.ref 0), some (.int (nI b.toNat)), some (.int (nI k))], [], (zw_M g gl a al))) rfl (fun h1 => ?_) (fun h1 => ?_)
  · skip
    refine zr_go (t := (43, [some (.ref 0), some (.int (nI b.toNat)), some (.int (nI k))], [.int (nI b.toNat)], (zw_M g gl a al))) 1 rfl ?_
    exact zr_ret rfl (zb_ok b) ⟨by rw [hb, show k = n by omega], rfl⟩
  · skip
    refine zr_go (t := (13, [some (.ref 0), some (.int (nI b.toNat)), some (.int (nI k))], [.int (nI b.toNat)], (zw_M g gl a al))) 1 rfl ?_
    have hb1 := zb_le b
    have hb2 := hf1 k (by omega)
    refine zr_ieq (x := nI b.toNat) (y := 0) b.toNat 0 rfl rfl (by omega) (by omega) (t := (34, [some (.ref 0), some (.int (nI b.toNat)), some (.int (nI k))], [], (zw_M g gl a al))) (f := (16, [some (.ref 0), some (.int (nI b.toNat)), some (.int (nI k))], [], (zw_M g gl a al))) rfl (fun h2 => ?_) (fun h2 => ?_)
    · skip
      refine zr_go (t := (4, [some (.ref 0), some (.int 0), some (.int ((nI k) + 1))], [], (zw_M g gl a al))) 4 rfl ?_
      rw [show some (Value.int 0) = some (Value.int (nI (false).toNat)) from rfl]
      rw [show (nI k) + 1 = nI (k + 1) from (zn_add rfl rfl)]
      exact ih (k + 1, false) ⟨by omega, by show false = (zA _ k && _); rw [← hb, zb_0 h2]; rfl⟩ (by omega)
    · skip
      refine zr_go (t := (25, [some (.ref 0), some (.int (nI b.toNat)), some (.int (nI k))], [.int (nI k), .ref 13, .ref 5], (zw_M g gl a al))) 5 rfl ?_
      refine zr_cd (t := (26, [some (.ref 0), some (.int (nI b.toNat)), some (.int (nI k))], [.int ((a 13) (nI k).toNatClampNeg), .ref 5], (zw_M g gl a al))) rfl (pk_in k 31 (by omega) rfl (by omega)) ?_
      rw [pk_cl (x := (nI k)) k rfl (by omega)]
      rw [show (a 13) k = nI (f k) from hf k (by omega)]
      refine zr_cd (t := (27, [some (.ref 0), some (.int (nI b.toNat)), some (.int (nI k))], [.int ((a 5) (nI (f k)).toNatClampNeg)], (zw_M g gl a al))) rfl (pk_in (f k) 156 (by omega) rfl (by omega)) ?_
      rw [pk_cl (x := (nI (f k))) (f k) rfl (by omega)]
      rw [show (a 5) (f k) = nI ((o (f k)).toNat) from hO (f k) (by omega)]
      have ho1 := zb_le (o (f k))
      refine zr_ieq (x := nI ((o (f k)).toNat)) (y := 0) ((o (f k)).toNat) 0 rfl rfl (by omega) (by omega) (t := (34, [some (.ref 0), some (.int (nI b.toNat)), some (.int (nI k))], [], (zw_M g gl a al))) (f := (30, [some (.ref 0), some (.int (nI b.toNat)), some (.int (nI k))], [], (zw_M g gl a al))) rfl (fun h3 => ?_) (fun h3 => ?_)
      · skip
        refine zr_go (t := (4, [some (.ref 0), some (.int 0), some (.int ((nI k) + 1))], [], (zw_M g gl a al))) 4 rfl ?_
        rw [show some (Value.int 0) = some (Value.int (nI (false).toNat)) from rfl]
        rw [show (nI k) + 1 = nI (k + 1) from (zn_add rfl rfl)]
        exact ih (k + 1, false) ⟨by omega, by show false = (zA _ k && _); rw [← hb, zb_1 h2]; simp [zb_0 h3]⟩ (by omega)
      · skip
        refine zr_go (t := (4, [some (.ref 0), some (.int 1), some (.int ((nI k) + 1))], [], (zw_M g gl a al))) 5 rfl ?_
        rw [show some (Value.int 1) = some (Value.int (nI (true).toNat)) from rfl]
        rw [show (nI k) + 1 = nI (k + 1) from (zn_add rfl rfl)]
        exact ih (k + 1, true) ⟨by omega, by show true = (zA _ k && _); rw [← hb, zb_1 h2]; simp [zb_1 h3]⟩ (by omega)
/-- the points of a line, in their order, as the reference lays them out -/
def zv_lnf (P N : Nat) (y : Nat → Nat → Nat) (p q : Nat) : Nat → Nat → Nat
  | 0 => zv_ins (fun _ => 0) p 0
  | t + 1 => zv_ins (zv_lnf P N y p q t) (zv_pt P N (zv_mx P t 1 (y p) (y q))) (t + 1)
theorem zv_lnf_lt {P N np : Nat} {y : Nat → Nat → Nat} {p q : Nat} (hp : p < np) (t : Nat) (hv : ∀ b, b < t → zv_pt P N (zv_mx P b 1 (y p) (y q)) < np) : ∀ k, k < t + 1 → zv_lnf P N y p q t k < np := by
  induction t with
  | zero => exact zv_ins_lt (fun k h => absurd h (Nat.not_lt_zero k)) hp
  | succ t ih => exact zv_ins_lt (ih (fun b hb => hv b (by omega))) (hv t (by omega))
theorem zs_M_layLine (g : Nat → Int32) (gl : Nat → Int64) (a : Nat → Nat → Int32) (al : Nat → Nat → Int64) (P N : Nat) (hP : g 0 = nI P) (hN : g 1 = nI N) (hPP : P = 2 ∨ P = 3 ∨ P = 5) (hN6 : N ≤ 6) (hA : P ^ N ≤ 729) (hnum : ∀ t, 1 ≤ t → t < P ^ N → a 4 t = if zv_l1 P N t then nI (zv_cnt P N t) else -1) (np : Nat) (y : Nat → Nat → Nat) (hR : zc_R g a np y) (p q : Nat) (hp : p < np) (hq : q < np) (hv : ∀ b, b < P → zv_vec P N (zv_mx P b 1 (y p) (y q)) ∧ zv_pt P N (zv_mx P b 1 (y p) (y q)) < np) : zm_Ev zt_get 4 132 [.ref 0, .int (nI p), .int (nI q)] (zw_M g gl a al) (fun v w => v = none ∧ ∃ f12 h, w = (zw_M (upd g 25 (nI (P + 1))) gl (va_up (va_up a 12 f12) 13 h) al) ∧ ∀ k, k < P + 1 → h k = nI (zv_lnf P N y p q P k)) := by
  obtain ⟨hP0, hP5⟩ := zv_P5 hPP
  obtain ⟨hnp, hnp1, hy, hy4⟩ := id hR
  refine zr_ev zt_M_layLine rfl rfl ?_
  show zm_Run zt_get 3 zt_M_layLine (0, [some (.ref 0), some (.int (nI p)), some (.int (nI q)), none], [], (zw_M g gl a al)) _
  refine zr_go (t := (7, [some (.ref 0), some (.int (nI p)), some (.int (nI q)), none], [.int (nI p), .ref 0], (zw_M (upd g 25 0) gl a al))) 5 rfl ?_
  refine zr_call (t := (10, [some (.ref 0), some (.int (nI p)), some (.int (nI q)), none], [], (zw_M (upd g 25 0) gl a al))) rfl (Nat.le_of_ble_eq_true rfl : 1 ≤ 3) (zs_M_addTo (upd g 25 0) gl a al p (by omega) 0 (fun _ => 0) rfl (fun k h => absurd h (Nat.not_lt_zero k)) (by omega) (fun k h => absurd h (Nat.not_lt_zero k))) ?_
  rintro _ _ ⟨rfl, h0, rfl, hh0⟩
  show zm_Run zt_get 3 zt_M_layLine (10, [some (.ref 0), some (.int (nI p)), some (.int (nI q)), none], [], (zw_M (upd g 25 (nI (0 + 1))) gl (va_up a 13 h0) al)) _
  refine zr_go (t := (12, [some (.ref 0), some (.int (nI p)), some (.int (nI q)), some (.int 0)], [], (zw_M (upd g 25 (nI (0 + 1))) gl (va_up a 13 h0) al))) 2 rfl ?_
  refine zr_loop (fun zq : Nat × (Nat → Int32) × (Nat → Int32) => (12, [some (.ref 0), some (.int (nI p)), some (.int (nI q)), some (.int (nI zq.1))], [], (zw_M (upd g 25 (nI (zq.1 + 1))) gl (va_up (va_up a 12 zq.2.1) 13 zq.2.2) al))) (fun zq => zq.1 ≤ P ∧ ∀ k, k < zq.1 + 1 → zq.2.2 k = nI (zv_lnf P N y p q zq.1 k)) (fun zq => P - zq.1) ?_ (0, a 12, h0) ⟨by omega, hh0⟩
  rintro ⟨t, f12, h⟩ ⟨ht, hh⟩ ih
  try dsimp only at *
  refine zr_go (t := (17, [some (.ref 0), some (.int (nI p)), some (.int (nI q)), some (.int (nI t))], [.int (g 0), .int (nI t)], (zw_M (upd g 25 (nI (t + 1))) gl (va_up (va_up a 12 f12) 13 h) al))) 3 rfl ?_
  refine zr_ige (x := nI t) (y := g 0) t P rfl hP (by omega) (by omega) (t := (38, [some (.ref 0), some (.int (nI p)), some (.int (nI q)), some (.int (nI t))], [], (zw_M (upd g 25 (nI (t + 1))) gl (va_up (va_up a 12 f12) 13 h) al))) (f := (20, [some (.ref 0), some (.int (nI p)), some (.int (nI q)), some (.int (nI t))], [], (zw_M (upd g 25 (nI (t + 1))) gl (va_up (va_up a 12 f12) 13 h) al))) rfl (fun h1 => ?_) (fun h1 => ?_)
  · skip
    have e1 : P = t := by omega
    subst e1
    exact zr_ret rfl trivial ⟨rfl, f12, h, rfl, hh⟩
  · skip
    refine zr_go (t := (26, [some (.ref 0), some (.int (nI p)), some (.int (nI q)), some (.int (nI t))], [.int 1, .int (nI q), .int (nI t), .int (nI p), .ref 0, .ref 0], (zw_M (upd g 25 (nI (t + 1))) gl (va_up (va_up a 12 f12) 13 h) al))) 6 rfl ?_
    refine zr_call (t := (29, [some (.ref 0), some (.int (nI p)), some (.int (nI q)), some (.int (nI t))], [.ref 0], (zw_M (upd g 25 (nI (t + 1))) gl (va_up (va_up a 12 f12) 13 h) al))) rfl (Nat.le_of_ble_eq_true rfl : 3 ≤ 3) (zs_M_mix (upd g 25 (nI (t + 1))) gl (va_up (va_up a 12 f12) 13 h) al P N hP hN hPP hN6 hA hnum np y hR p t q 1 hp (by omega) hq (by omega) (hv t h1).1) ?_
    rintro _ _ ⟨rfl, e12, rfl⟩
    show zm_Run zt_get 3 zt_M_layLine (29, [some (.ref 0), some (.int (nI p)), some (.int (nI q)), some (.int (nI t))], [.int (nI (zv_pt P N (zv_mx P t 1 (y p) (y q)))), .ref 0], (zw_M (upd g 25 (nI (t + 1))) gl (va_up (va_up a 12 e12) 13 h) al)) _
    refine zr_call (t := (32, [some (.ref 0), some (.int (nI p)), some (.int (nI q)), some (.int (nI t))], [], (zw_M (upd g 25 (nI (t + 1))) gl (va_up (va_up a 12 e12) 13 h) al))) rfl (Nat.le_of_ble_eq_true rfl : 1 ≤ 3) (zs_M_addTo (upd g 25 (nI (t + 1))) gl (va_up (va_up a 12 e12) 13 h) al (zv_pt P N (zv_mx P t 1 (y p) (y q))) (by have := (hv t h1).2; omega) (t + 1) (zv_lnf P N y p q t) rfl hh (by omega) (fun k hk => Nat.lt_of_lt_of_le (zv_lnf_lt hp t (fun b hb => (hv b (by omega)).2) k hk) (by omega))) ?_
    rintro _ _ ⟨rfl, h2, rfl, hh2⟩
    show zm_Run zt_get 3 zt_M_layLine (32, [some (.ref 0), some (.int (nI p)), some (.int (nI q)), some (.int (nI t))], [], (zw_M (upd g 25 (nI (t + 1 + 1))) gl (va_up (va_up a 12 e12) 13 h2) al)) _
    refine zr_go (t := (12, [some (.ref 0), some (.int (nI p)), some (.int (nI q)), some (.int ((nI t) + 1))], [], (zw_M (upd g 25 (nI (t + 1 + 1))) gl (va_up (va_up a 12 e12) 13 h2) al))) 2 rfl ?_
    rw [show (nI t) + 1 = nI (t + 1) from (zn_add rfl rfl)]
    exact ih (t + 1, e12, h2) ⟨by omega, hh2⟩ (by omega)
end
section
/-! the reference: all lines, all planes (written by wip/whole/gen_m7.py) -/
/-- the points of a plane through a line's points f and a point p, as the reference lays them out -/
def zv_wf (P N : Nat) (y : Nat → Nat → Nat) (f : Nat → Nat) (p : Nat) : Nat → Nat → Nat
  | 0 => zv_ins f p (P + 1)
  | s + 1 => zv_ins (zv_wf P N y f p s) (zv_pt P N (zv_mx P (s % (P - 1) + 1) 1 (y (f (s / (P - 1)))) (y p))) (P + 2 + s)
theorem zv_wf_lt {P N np : Nat} {y : Nat → Nat → Nat} {f : Nat → Nat} {p : Nat} (hf : ∀ k, k < P + 1 → f k < np) (hp : p < np) (s : Nat) (hv : ∀ s', s' < s → zv_pt P N (zv_mx P (s' % (P - 1) + 1) 1 (y (f (s' / (P - 1)))) (y p)) < np) : ∀ k, k < P + 2 + s → zv_wf P N y f p s k < np := by
  induction s with
  | zero => exact zv_ins_lt hf hp
  | succ s ih => exact zv_ins_lt (n := P + 2 + s) (ih (fun b hb => hv b (by omega))) (hv s (by omega))
theorem zv_dm {m k b : Nat} (h : b < m) : (m * k + b) / m = k ∧ (m * k + b) % m = b := by
  refine ⟨?_, ?_⟩
  · rw [Nat.mul_add_div (by omega), Nat.div_eq_of_lt h, Nat.add_zero]
  · rw [Nat.mul_add_mod, Nat.mod_eq_of_lt h]
theorem zv_wb {P k b : Nat} (hPP : P = 2 ∨ P = 3 ∨ P = 5) (hk : k < P + 1) (hb : b < P - 1) : P + 2 + ((P - 1) * k + b) < 31 ∧ (P - 1) * k + b < (P + 1) * (P - 1) := by
  rcases hPP with rfl | rfl | rfl <;> omega
theorem zs_M_widen (g : Nat → Int32) (gl : Nat → Int64) (a : Nat → Nat → Int32) (al : Nat → Nat → Int64) (P N : Nat) (hP : g 0 = nI P) (hN : g 1 = nI N) (hPP : P = 2 ∨ P = 3 ∨ P = 5) (hN6 : N ≤ 6) (hA : P ^ N ≤ 729) (hnum : ∀ t, 1 ≤ t → t < P ^ N → a 4 t = if zv_l1 P N t then nI (zv_cnt P N t) else -1) (np : Nat) (y : Nat → Nat → Nat) (hR : zc_R g a np y) (p : Nat) (hp : p < np) (f : Nat → Nat) (hn : g 25 = nI (P + 1)) (hf : ∀ k, k < P + 1 → a 13 k = nI (f k)) (hf1 : ∀ k, k < P + 1 → f k < np) (hv : ∀ s, s < (P + 1) * (P - 1) → zv_vec P N (zv_mx P (s % (P - 1) + 1) 1 (y (f (s / (P - 1)))) (y p)) ∧ zv_pt P N (zv_mx P (s % (P - 1) + 1) 1 (y (f (s / (P - 1)))) (y p)) < np) : zm_Ev zt_get 4 133 [.ref 0, .int (nI p)] (zw_M g gl a al) (fun v w => v = none ∧ ∃ f12 h f14, w = (zw_M (upd g 25 (nI (P + 2 + (P + 1) * (P - 1)))) gl (va_up (va_up (va_up a 12 f12) 13 h) 14 f14) al) ∧ ∀ k, k < P + 2 + (P + 1) * (P - 1) → h k = nI (zv_wf P N y f p ((P + 1) * (P - 1)) k)) := by
  obtain ⟨hP0, hP5⟩ := zv_P5 hPP
  obtain ⟨hnp, hnp1, hy, hy4⟩ := id hR
  refine zr_ev zt_M_widen rfl rfl ?_
  show zm_Run zt_get 3 zt_M_widen (0, [some (.ref 0), some (.int (nI p)), none, none, none], [], (zw_M g gl a al)) _
  refine zr_go (t := (7, [some (.ref 0), some (.int (nI p)), some (.int (g 25)), some (.int 0), none], [], (zw_M g gl a al))) 5 rfl ?_
  refine zr_fst2 (t := (7, [some (.ref 0), some (.int (nI p)), some (.int (nI (P + 1))), some (.int 0), none], [], (zw_M g gl a al))) (by rw [hn]) ?_
  refine zr_loop (fun zq : Nat × (Nat → Int32) => (7, [some (.ref 0), some (.int (nI p)), some (.int (nI (P + 1))), some (.int (nI zq.1)), none], [], (zw_M g gl (va_up a 14 zq.2) al))) (fun zq => zq.1 ≤ P + 1 ∧ ∀ t, t < zq.1 → zq.2 t = nI (f t)) (fun zq => P + 1 - zq.1) ?_ (0, a 14) ⟨by omega, fun k h => absurd h (Nat.not_lt_zero k)⟩
  rintro ⟨k, f14⟩ ⟨hk, hf14⟩ ih
  try dsimp only at *
  refine zr_go (t := (9, [some (.ref 0), some (.int (nI p)), some (.int (nI (P + 1))), some (.int (nI k)), none], [.int (nI (P + 1)), .int (nI k)], (zw_M g gl (va_up a 14 f14) al))) 2 rfl ?_
  refine zr_ige (x := nI k) (y := nI (P + 1)) k (P + 1) rfl rfl (by omega) (by omega) (t := (30, [some (.ref 0), some (.int (nI p)), some (.int (nI (P + 1))), some (.int (nI k)), none], [], (zw_M g gl (va_up a 14 f14) al))) (f := (12, [some (.ref 0), some (.int (nI p)), some (.int (nI (P + 1))), some (.int (nI k)), none], [], (zw_M g gl (va_up a 14 f14) al))) rfl (fun h1 => ?_) (fun h1 => ?_)
  · skip
    have e1 : k = P + 1 := by omega
    subst e1
    refine zr_go (t := (32, [some (.ref 0), some (.int (nI p)), some (.int (nI (P + 1))), some (.int (nI (P + 1))), none], [.int (nI p), .ref 0], (zw_M g gl (va_up a 14 f14) al))) 2 rfl ?_
    refine zr_call (t := (35, [some (.ref 0), some (.int (nI p)), some (.int (nI (P + 1))), some (.int (nI (P + 1))), none], [], (zw_M g gl (va_up a 14 f14) al))) rfl (Nat.le_of_ble_eq_true rfl : 1 ≤ 3) (zs_M_addTo g gl (va_up a 14 f14) al p (by omega) (P + 1) f hn hf (by omega) (fun k hk => Nat.lt_of_lt_of_le (hf1 k hk) (by omega))) ?_
    rintro _ _ ⟨rfl, h0, rfl, hh0⟩
    show zm_Run zt_get 3 zt_M_widen (35, [some (.ref 0), some (.int (nI p)), some (.int (nI (P + 1))), some (.int (nI (P + 1))), none], [], (zw_M (upd g 25 (nI (P + 1 + 1))) gl (va_up (va_up a 13 h0) 14 f14) al)) _
    refine zr_go (t := (37, [some (.ref 0), some (.int (nI p)), some (.int (nI (P + 1))), some (.int 0), none], [], (zw_M (upd g 25 (nI (P + 1 + 1))) gl (va_up (va_up a 13 h0) 14 f14) al))) 2 rfl ?_
    refine zr_loop (fun zq : Nat × (Nat → Int32) × (Nat → Int32) => (37, [some (.ref 0), some (.int (nI p)), some (.int (nI (P + 1))), some (.int (nI zq.1)), none], [], (zw_M (upd g 25 (nI (P + 2 + (P - 1) * zq.1))) gl (va_up (va_up (va_up a 12 zq.2.1) 13 zq.2.2) 14 f14) al))) (fun zq => zq.1 ≤ P + 1 ∧ ∀ t, t < P + 2 + (P - 1) * zq.1 → zq.2.2 t = nI (zv_wf P N y f p ((P - 1) * zq.1) t)) (fun zq => P + 1 - zq.1) ?_ (0, a 12, h0) ⟨by omega, hh0⟩
    rintro ⟨k, f12, h⟩ ⟨hk2, hh⟩ ih2
    try dsimp only at *
    refine zr_go (t := (39, [some (.ref 0), some (.int (nI p)), some (.int (nI (P + 1))), some (.int (nI k)), none], [.int (nI (P + 1)), .int (nI k)], (zw_M (upd g 25 (nI (P + 2 + (P - 1) * k))) gl (va_up (va_up (va_up a 12 f12) 13 h) 14 f14) al))) 2 rfl ?_
    refine zr_ige (x := nI k) (y := nI (P + 1)) k (P + 1) rfl rfl (by omega) (by omega) (t := (84, [some (.ref 0), some (.int (nI p)), some (.int (nI (P + 1))), some (.int (nI k)), none], [], (zw_M (upd g 25 (nI (P + 2 + (P - 1) * k))) gl (va_up (va_up (va_up a 12 f12) 13 h) 14 f14) al))) (f := (42, [some (.ref 0), some (.int (nI p)), some (.int (nI (P + 1))), some (.int (nI k)), none], [], (zw_M (upd g 25 (nI (P + 2 + (P - 1) * k))) gl (va_up (va_up (va_up a 12 f12) 13 h) 14 f14) al))) rfl (fun h2 => ?_) (fun h2 => ?_)
    · skip
      have e1 : k = P + 1 := by omega
      subst e1
      rw [Nat.mul_comm (P - 1) (P + 1)] at hh ⊢
      exact zr_ret rfl trivial ⟨rfl, f12, h, f14, rfl, hh⟩
    · skip
      refine zr_go (t := (45, [some (.ref 0), some (.int (nI p)), some (.int (nI (P + 1))), some (.int (nI k)), some (.int 1)], [], (zw_M (upd g 25 (nI (P + 2 + (P - 1) * k))) gl (va_up (va_up (va_up a 12 f12) 13 h) 14 f14) al))) 2 rfl ?_
      refine zr_loop (fun zq : Nat × (Nat → Int32) × (Nat → Int32) => (45, [some (.ref 0), some (.int (nI p)), some (.int (nI (P + 1))), some (.int (nI k)), some (.int (nI (zq.1 + 1)))], [], (zw_M (upd g 25 (nI (P + 2 + ((P - 1) * k + zq.1)))) gl (va_up (va_up (va_up a 12 zq.2.1) 13 zq.2.2) 14 f14) al))) (fun zq => zq.1 < P ∧ ∀ t, t < P + 2 + ((P - 1) * k + zq.1) → zq.2.2 t = nI (zv_wf P N y f p ((P - 1) * k + zq.1) t)) (fun zq => P - zq.1) ?_ (0, f12, h) ⟨hP0, hh⟩
      rintro ⟨b, e12, h3⟩ ⟨hb, hh3⟩ ih3
      try dsimp only at *
      refine zr_go (t := (51, [some (.ref 0), some (.int (nI p)), some (.int (nI (P + 1))), some (.int (nI k)), some (.int (nI (b + 1)))], [.int (g 0), .int (nI (b + 1))], (zw_M (upd g 25 (nI (P + 2 + ((P - 1) * k + b)))) gl (va_up (va_up (va_up a 12 e12) 13 h3) 14 f14) al))) 3 rfl ?_
      refine zr_ige (x := nI (b + 1)) (y := g 0) (b + 1) P rfl hP (by omega) (by omega) (t := (78, [some (.ref 0), some (.int (nI p)), some (.int (nI (P + 1))), some (.int (nI k)), some (.int (nI (b + 1)))], [], (zw_M (upd g 25 (nI (P + 2 + ((P - 1) * k + b)))) gl (va_up (va_up (va_up a 12 e12) 13 h3) 14 f14) al))) (f := (54, [some (.ref 0), some (.int (nI p)), some (.int (nI (P + 1))), some (.int (nI k)), some (.int (nI (b + 1)))], [], (zw_M (upd g 25 (nI (P + 2 + ((P - 1) * k + b)))) gl (va_up (va_up (va_up a 12 e12) 13 h3) 14 f14) al))) rfl (fun h4 => ?_) (fun h4 => ?_)
      · skip
        have e2 : b = P - 1 := by omega
        subst e2
        refine zr_go (t := (37, [some (.ref 0), some (.int (nI p)), some (.int (nI (P + 1))), some (.int ((nI k) + 1)), some (.int (nI (P - 1 + 1)))], [], (zw_M (upd g 25 (nI (P + 2 + ((P - 1) * k + (P - 1))))) gl (va_up (va_up (va_up a 12 e12) 13 h3) 14 f14) al))) 2 rfl ?_
        rw [show (P - 1) * k + (P - 1) = (P - 1) * (k + 1) from rfl] at hh3 ⊢
        rw [show (nI k) + 1 = nI (k + 1) from (zn_add rfl rfl)]
        refine zr_forget [some (.ref 0), some (.int (nI p)), some (.int (nI (P + 1))), some (.int (nI (k + 1))), none] ⟨Or.inr rfl, Or.inr rfl, Or.inr rfl, Or.inr rfl, Or.inl rfl, trivial⟩ ?_
        exact ih2 (k + 1, e12, h3) ⟨by omega, hh3⟩ (by omega)
      · skip
        obtain ⟨hw1, hw2⟩ := zv_wb hPP (by omega : k < P + 1) (by omega : b < P - 1)
        obtain ⟨hd1, hd2⟩ := zv_dm (k := k) (by omega : b < P - 1)
        obtain ⟨hv1, hv2⟩ := hv _ hw2
        rw [hd1, hd2] at hv1 hv2
        refine zr_go (t := (61, [some (.ref 0), some (.int (nI p)), some (.int (nI (P + 1))), some (.int (nI k)), some (.int (nI (b + 1)))], [.int (nI k), .ref 14, .ref 0, .ref 0], (zw_M (upd g 25 (nI (P + 2 + ((P - 1) * k + b)))) gl (va_up (va_up (va_up a 12 e12) 13 h3) 14 f14) al))) 5 rfl ?_
        refine zr_cd (t := (62, [some (.ref 0), some (.int (nI p)), some (.int (nI (P + 1))), some (.int (nI k)), some (.int (nI (b + 1)))], [.int (f14 (nI k).toNatClampNeg), .ref 0, .ref 0], (zw_M (upd g 25 (nI (P + 2 + ((P - 1) * k + b)))) gl (va_up (va_up (va_up a 12 e12) 13 h3) 14 f14) al))) rfl (pk_in k 6 (by omega) rfl (by omega)) ?_
        rw [pk_cl (x := (nI k)) k rfl (by omega)]
        rw [show f14 k = nI (f k) from hf14 k (by omega)]
        refine zr_go (t := (66, [some (.ref 0), some (.int (nI p)), some (.int (nI (P + 1))), some (.int (nI k)), some (.int (nI (b + 1)))], [.int 1, .int (nI p), .int (nI (b + 1)), .int (nI (f k)), .ref 0, .ref 0], (zw_M (upd g 25 (nI (P + 2 + ((P - 1) * k + b)))) gl (va_up (va_up (va_up a 12 e12) 13 h3) 14 f14) al))) 3 rfl ?_
        refine zr_call (t := (69, [some (.ref 0), some (.int (nI p)), some (.int (nI (P + 1))), some (.int (nI k)), some (.int (nI (b + 1)))], [.ref 0], (zw_M (upd g 25 (nI (P + 2 + ((P - 1) * k + b)))) gl (va_up (va_up (va_up a 12 e12) 13 h3) 14 f14) al))) rfl (Nat.le_of_ble_eq_true rfl : 3 ≤ 3) (zs_M_mix (upd g 25 (nI (P + 2 + ((P - 1) * k + b)))) gl (va_up (va_up (va_up a 12 e12) 13 h3) 14 f14) al P N hP hN hPP hN6 hA hnum np y hR (f k) (b + 1) p 1 (hf1 k (by omega)) (by omega) hp (by omega) hv1) ?_
        rintro _ _ ⟨rfl, d12, rfl⟩
        show zm_Run zt_get 3 zt_M_widen (69, [some (.ref 0), some (.int (nI p)), some (.int (nI (P + 1))), some (.int (nI k)), some (.int (nI (b + 1)))], [.int (nI (zv_pt P N (zv_mx P (b + 1) 1 (y (f k)) (y p)))), .ref 0], (zw_M (upd g 25 (nI (P + 2 + ((P - 1) * k + b)))) gl (va_up (va_up (va_up a 12 d12) 13 h3) 14 f14) al)) _
        refine zr_call (t := (72, [some (.ref 0), some (.int (nI p)), some (.int (nI (P + 1))), some (.int (nI k)), some (.int (nI (b + 1)))], [], (zw_M (upd g 25 (nI (P + 2 + ((P - 1) * k + b)))) gl (va_up (va_up (va_up a 12 d12) 13 h3) 14 f14) al))) rfl (Nat.le_of_ble_eq_true rfl : 1 ≤ 3) (zs_M_addTo (upd g 25 (nI (P + 2 + ((P - 1) * k + b)))) gl (va_up (va_up (va_up a 12 d12) 13 h3) 14 f14) al (zv_pt P N (zv_mx P (b + 1) 1 (y (f k)) (y p))) (by omega) (P + 2 + ((P - 1) * k + b)) (zv_wf P N y f p ((P - 1) * k + b)) rfl hh3 (by omega) (fun t ht => Nat.lt_of_lt_of_le (zv_wf_lt hf1 hp _ (fun s hs => (hv s (by omega)).2) t ht) (by omega))) ?_
        rintro _ _ ⟨rfl, h5, rfl, hh5⟩
        show zm_Run zt_get 3 zt_M_widen (72, [some (.ref 0), some (.int (nI p)), some (.int (nI (P + 1))), some (.int (nI k)), some (.int (nI (b + 1)))], [], (zw_M (upd g 25 (nI (P + 2 + ((P - 1) * k + b) + 1))) gl (va_up (va_up (va_up a 12 d12) 13 h5) 14 f14) al)) _
        refine zr_go (t := (45, [some (.ref 0), some (.int (nI p)), some (.int (nI (P + 1))), some (.int (nI k)), some (.int ((nI (b + 1)) + 1))], [], (zw_M (upd g 25 (nI (P + 2 + ((P - 1) * k + b) + 1))) gl (va_up (va_up (va_up a 12 d12) 13 h5) 14 f14) al))) 2 rfl ?_
        rw [show (nI (b + 1)) + 1 = nI ((b + 1) + 1) from (zn_add rfl rfl)]
        exact ih3 (b + 1, d12, h5) ⟨by omega, fun t ht => (hh5 t ht).trans (by show _ = nI (zv_ins _ (zv_pt P N (zv_mx P (((P - 1) * k + b) % (P - 1) + 1) 1 (y (f (((P - 1) * k + b) / (P - 1)))) (y p))) _ t); rw [hd1, hd2]; rfl)⟩ (by omega)
  · skip
    refine zr_go (t := (22, [some (.ref 0), some (.int (nI p)), some (.int (nI (P + 1))), some (.int (nI k)), none], [.int (nI k), .ref 13, .int (nI k), .ref 14], (zw_M g gl (va_up a 14 f14) al))) 6 rfl ?_
    refine zr_cd (t := (23, [some (.ref 0), some (.int (nI p)), some (.int (nI (P + 1))), some (.int (nI k)), none], [.int ((a 13) (nI k).toNatClampNeg), .int (nI k), .ref 14], (zw_M g gl (va_up a 14 f14) al))) rfl (pk_in k 31 (by omega) rfl (by omega)) ?_
    rw [pk_cl (x := (nI k)) k rfl (by omega)]
    rw [show (a 13) k = nI (f k) from hf k (by omega)]
    refine zr_cd (t := (24, [some (.ref 0), some (.int (nI p)), some (.int (nI (P + 1))), some (.int (nI k)), none], [], (zw_M g gl (va_up a 14 (upd f14 ((nI k).toNatClampNeg) (nI (f k)))) al))) rfl (pk_in k 6 (by omega) rfl (by omega)) ?_
    rw [pk_cl (x := (nI k)) k rfl (by omega)]
    refine zr_go (t := (7, [some (.ref 0), some (.int (nI p)), some (.int (nI (P + 1))), some (.int ((nI k) + 1)), none], [], (zw_M g gl (va_up a 14 (upd f14 k (nI (f k)))) al))) 2 rfl ?_
    rw [show (nI k) + 1 = nI (k + 1) from (zn_add rfl rfl)]
    exact ih (k + 1, (upd f14 k (nI (f k)))) ⟨by omega, lt_s (fun k hk => (pk_un (Nat.ne_of_lt hk)).trans (hf14 k hk)) pk_us⟩ (by omega)
theorem zs_M_isOfLine (g : Nat → Int32) (gl : Nat → Int64) (a : Nat → Nat → Int32) (al : Nat → Nat → Int64) (P : Nat) (hP : g 0 = nI P) (hP5 : P ≤ 5) (l p : Nat) (hl : l < 128) (hp : p < 1000) (f : Nat → Nat) (hf : ∀ k, k < P + 1 → a 6 (6 * l + k) = nI (f k)) (hf1 : ∀ k, k < P + 1 → f k < 1000) : zm_Ev zt_get 1 137 [.ref 0, .int (nI l), .int (nI p)] (zw_M g gl a al) (fun v w => v = some (.int (nI (zE (fun k => f k == p) (P + 1)).toNat)) ∧ w = (zw_M g gl a al)) := by
  refine zr_ev zt_M_isOfLine rfl rfl ?_
  show zm_Run zt_get 0 zt_M_isOfLine (0, [some (.ref 0), some (.int (nI l)), some (.int (nI p)), none, none], [], (zw_M g gl a al)) _
  refine zr_go (t := (5, [some (.ref 0), some (.int (nI l)), some (.int (nI p)), some (.int 0), some (.int 0)], [], (zw_M g gl a al))) 4 rfl ?_
  refine zr_loop (fun zq : Nat × Bool => (5, [some (.ref 0), some (.int (nI l)), some (.int (nI p)), some (.int (nI zq.2.toNat)), some (.int (nI zq.1))], [], (zw_M g gl a al))) (fun zq => zq.1 ≤ P + 1 ∧ zq.2 = zE (fun t => f t == p) zq.1) (fun zq => P + 1 - zq.1) ?_ (0, false) ⟨by omega, rfl⟩
  rintro ⟨k, b⟩ ⟨hk, hb⟩ ih
  try dsimp only at *
  refine zr_go (t := (11, [some (.ref 0), some (.int (nI l)), some (.int (nI p)), some (.int (nI b.toNat)), some (.int (nI k))], [.int (g 0), .int (nI k)], (zw_M g gl a al))) 3 rfl ?_
  refine zr_igt (x := nI k) (y := g 0) k P rfl hP (by omega) (by omega) (t := (46, [some (.ref 0), some (.int (nI l)), some (.int (nI p)), some (.int (nI b.toNat)), some (.int (nI k))], [], (zw_M g gl a al))) (f := (14, [some (.ref 0), some (.int (nI l)), some (.int (nI p)), some (.int (nI b.toNat)), some (.int (nI k))], [], (zw_M g gl a al))) rfl (fun h1 => ?_) (fun h1 => ?_)
  · skip
    refine zr_go (t := (47, [some (.ref 0), some (.int (nI l)), some (.int (nI p)), some (.int (nI b.toNat)), some (.int (nI k))], [.int (nI b.toNat)], (zw_M g gl a al))) 1 rfl ?_
    exact zr_ret rfl (zb_ok b) ⟨by rw [hb, show k = P + 1 by omega], rfl⟩
  · skip
    refine zr_go (t := (15, [some (.ref 0), some (.int (nI l)), some (.int (nI p)), some (.int (nI b.toNat)), some (.int (nI k))], [.int (nI b.toNat)], (zw_M g gl a al))) 1 rfl ?_
    have hb1 := zb_le b
    have hb2 := hf1 k (by omega)
    refine zr_ine (x := nI b.toNat) (y := 0) b.toNat 0 rfl rfl (by omega) (by omega) (t := (34, [some (.ref 0), some (.int (nI l)), some (.int (nI p)), some (.int (nI b.toNat)), some (.int (nI k))], [], (zw_M g gl a al))) (f := (18, [some (.ref 0), some (.int (nI l)), some (.int (nI p)), some (.int (nI b.toNat)), some (.int (nI k))], [], (zw_M g gl a al))) rfl (fun h2 => ?_) (fun h2 => ?_)
    · skip
      refine zr_go (t := (5, [some (.ref 0), some (.int (nI l)), some (.int (nI p)), some (.int 1), some (.int ((nI k) + 1))], [], (zw_M g gl a al))) 5 rfl ?_
      rw [show some (Value.int 1) = some (Value.int (nI (true).toNat)) from rfl]
      rw [show (nI k) + 1 = nI (k + 1) from (zn_add rfl rfl)]
      exact ih (k + 1, true) ⟨by omega, by show true = (zE _ k || _); rw [← hb, zb_1 h2]; rfl⟩ (by omega)
    · skip
      refine zr_go (t := (29, [some (.ref 0), some (.int (nI l)), some (.int (nI p)), some (.int (nI b.toNat)), some (.int (nI k))], [.int ((6 * (nI l)) + (nI k)), .ref 6], (zw_M g gl a al))) 7 rfl ?_
      refine zr_cd (t := (30, [some (.ref 0), some (.int (nI l)), some (.int (nI p)), some (.int (nI b.toNat)), some (.int (nI k))], [.int ((a 6) ((6 * (nI l)) + (nI k)).toNatClampNeg)], (zw_M g gl a al))) rfl (pk_in ((6 * l) + k) 768 (by omega) (zn_add (zn_mul rfl rfl) rfl) (by omega)) ?_
      rw [pk_cl (x := ((6 * (nI l)) + (nI k))) ((6 * l) + k) (zn_add (zn_mul rfl rfl) rfl) (by omega)]
      rw [show (a 6) ((6 * l) + k) = nI (f k) from hf k (by omega)]
      refine zr_go (t := (31, [some (.ref 0), some (.int (nI l)), some (.int (nI p)), some (.int (nI b.toNat)), some (.int (nI k))], [.int (nI p), .int (nI (f k))], (zw_M g gl a al))) 1 rfl ?_
      refine zr_ine (x := nI (f k)) (y := nI p) (f k) p rfl rfl (by omega) (by omega) (t := (38, [some (.ref 0), some (.int (nI l)), some (.int (nI p)), some (.int (nI b.toNat)), some (.int (nI k))], [], (zw_M g gl a al))) (f := (34, [some (.ref 0), some (.int (nI l)), some (.int (nI p)), some (.int (nI b.toNat)), some (.int (nI k))], [], (zw_M g gl a al))) rfl (fun h3 => ?_) (fun h3 => ?_)
      · skip
        refine zr_go (t := (5, [some (.ref 0), some (.int (nI l)), some (.int (nI p)), some (.int 0), some (.int ((nI k) + 1))], [], (zw_M g gl a al))) 4 rfl ?_
        rw [show some (Value.int 0) = some (Value.int (nI (false).toNat)) from rfl]
        rw [show (nI k) + 1 = nI (k + 1) from (zn_add rfl rfl)]
        exact ih (k + 1, false) ⟨by omega, by show false = (zE _ k || _); rw [← hb, zb_0 h2]; simp [h3]⟩ (by omega)
      · skip
        refine zr_go (t := (5, [some (.ref 0), some (.int (nI l)), some (.int (nI p)), some (.int 1), some (.int ((nI k) + 1))], [], (zw_M g gl a al))) 5 rfl ?_
        rw [show some (Value.int 1) = some (Value.int (nI (true).toNat)) from rfl]
        rw [show (nI k) + 1 = nI (k + 1) from (zn_add rfl rfl)]
        exact ih (k + 1, true) ⟨by omega, by show true = (zE _ k || _); rw [← hb, zb_0 h2]; simp [h3]⟩ (by omega)
/-- a pair of points, by its number, is the first two of a line that is all on -/
def zv_gl (P N np : Nat) (y : Nat → Nat → Nat) (o : Nat → Bool) (t : Nat) : Bool := decide (t / np < t % np) && (o (t / np) && (o (t % np) && (zv_lnf P N y (t / np) (t % np) P 0 == t / np && (zv_lnf P N y (t / np) (t % np) P 1 == t % np && zA (fun k => o (zv_lnf P N y (t / np) (t % np) P k)) (P + 1)))))
theorem zs_M_layLines (g : Nat → Int32) (gl : Nat → Int64) (a : Nat → Nat → Int32) (al : Nat → Nat → Int64) (P N : Nat) (hP : g 0 = nI P) (hN : g 1 = nI N) (hPP : P = 2 ∨ P = 3 ∨ P = 5) (hN6 : N ≤ 6) (hA : P ^ N ≤ 729) (hnum : ∀ t, 1 ≤ t → t < P ^ N → a 4 t = if zv_l1 P N t then nI (zv_cnt P N t) else -1) (np : Nat) (y : Nat → Nat → Nat) (hR : zc_R g a np y) (o : Nat → Bool) (hO : zc_O a np o) (hnp0 : 0 < np) (hLB : zC (zv_gl P N np y o) (np * np) ≤ 128) (hv : ∀ p q b, p < np → q < np → p ≠ q → b < P → zv_vec P N (zv_mx P b 1 (y p) (y q)) ∧ zv_pt P N (zv_mx P b 1 (y p) (y q)) < np) : zm_Ev zt_get 5 135 [.ref 0] (zw_M g gl a al) (fun v w => v = none ∧ ∃ x25 fl f12 f13, w = (zw_M (upd (upd g 12 (nI (zC (zv_gl P N np y o) (np * np)))) 25 x25) gl (va_up (va_up (va_up a 6 fl) 12 f12) 13 f13) al) ∧ ∀ t, t < np * np → zv_gl P N np y o t = true → ∀ k, k < P + 1 → fl (6 * zC (zv_gl P N np y o) t + k) = nI (zv_lnf P N y (t / np) (t % np) P k)) := by
  obtain ⟨hP0, hP5⟩ := zv_P5 hPP
  obtain ⟨hnp, hnp1, hy, hy4⟩ := id hR
  have hnn : np * np ≤ 156 * 156 := Nat.mul_le_mul hnp1 hnp1
  refine zr_ev zt_M_layLines rfl rfl ?_
  show zm_Run zt_get 4 zt_M_layLines (0, [some (.ref 0), none, none, none, none], [], (zw_M g gl a al)) _
  refine zr_go (t := (7, [some (.ref 0), some (.int 0), none, none, none], [], (zw_M (upd g 12 0) gl a al))) 5 rfl ?_
  refine zr_loop (fun zq : Nat × Nat × Int32 × (Nat → Int32) × (Nat → Int32) × (Nat → Int32) => (7, [some (.ref 0), some (.int (nI zq.1)), none, none, none], [], (zw_M (upd (upd g 12 (nI zq.2.1)) 25 zq.2.2.1) gl (va_up (va_up (va_up a 6 zq.2.2.2.1) 12 zq.2.2.2.2.1) 13 zq.2.2.2.2.2) al))) (fun zq => zq.1 ≤ np * np ∧ zq.2.1 = zC (zv_gl P N np y o) zq.1 ∧ ∀ s, s < zq.1 → zv_gl P N np y o s = true → ∀ k, k < P + 1 → zq.2.2.2.1 (6 * zC (zv_gl P N np y o) s + k) = nI (zv_lnf P N y (s / np) (s % np) P k)) (fun zq => np * np - zq.1) ?_ (0, 0, g 25, a 6, a 12, a 13) ⟨by omega, rfl, fun s h => absurd h (Nat.not_lt_zero s)⟩
  rintro ⟨t, L, x25, fl, f12, f13⟩ ⟨ht, hL, hfl⟩ ih
  try dsimp only at *
  refine zr_go (t := (17, [some (.ref 0), some (.int (nI t)), none, none, none], [.int ((g 6) * (g 6)), .int (nI t)], (zw_M (upd (upd g 12 (nI L)) 25 x25) gl (va_up (va_up (va_up a 6 fl) 12 f12) 13 f13) al))) 6 rfl ?_
  refine zr_ige (x := nI t) (y := (g 6) * (g 6)) t (np * np) rfl (zn_mul hnp hnp) (by omega) (by omega) (t := (146, [some (.ref 0), some (.int (nI t)), none, none, none], [], (zw_M (upd (upd g 12 (nI L)) 25 x25) gl (va_up (va_up (va_up a 6 fl) 12 f12) 13 f13) al))) (f := (20, [some (.ref 0), some (.int (nI t)), none, none, none], [], (zw_M (upd (upd g 12 (nI L)) 25 x25) gl (va_up (va_up (va_up a 6 fl) 12 f12) 13 f13) al))) rfl (fun h1 => ?_) (fun h1 => ?_)
  · skip
    have e1 : t = np * np := by omega
    subst e1
    subst hL
    exact zr_ret rfl trivial ⟨rfl, x25, fl, f12, f13, rfl, hfl⟩
  · skip
    have hp1 : t / np < np := Nat.div_lt_of_lt_mul h1
    have hq1 : t % np < np := Nat.mod_lt _ hnp0
    refine zr_go (t := (25, [some (.ref 0), some (.int (nI t)), none, none, none], [.int (g 6), .int (nI t)], (zw_M (upd (upd g 12 (nI L)) 25 x25) gl (va_up (va_up (va_up a 6 fl) 12 f12) 13 f13) al))) 3 rfl ?_
    refine zr_cd (t := (26, [some (.ref 0), some (.int (nI t)), none, none, none], [.int ((nI t) / (g 6))], (zw_M (upd (upd g 12 (nI L)) 25 x25) gl (va_up (va_up (va_up a 6 fl) 12 f12) 13 f13) al))) rfl (zn_ne0 hnp (by omega) (by omega)) ?_
    rw [show (nI t) / (g 6) = nI (t / np) from (zn_div rfl hnp (by omega) (by omega) (by omega))]
    refine zr_go (t := (32, [some (.ref 0), some (.int (nI t)), some (.int (nI (t / np))), none, none], [.int (g 6), .int (nI t)], (zw_M (upd (upd g 12 (nI L)) 25 x25) gl (va_up (va_up (va_up a 6 fl) 12 f12) 13 f13) al))) 4 rfl ?_
    refine zr_cd (t := (33, [some (.ref 0), some (.int (nI t)), some (.int (nI (t / np))), none, none], [.int ((nI t) - (nI t) / (g 6) * (g 6))], (zw_M (upd (upd g 12 (nI L)) 25 x25) gl (va_up (va_up (va_up a 6 fl) 12 f12) 13 f13) al))) rfl (zn_ne0 hnp (by omega) (by omega)) ?_
    rw [show (nI t) - (nI t) / (g 6) * (g 6) = nI (t % np) from (zn_rem rfl hnp (by omega) (by omega) (by omega))]
    refine zr_go (t := (36, [some (.ref 0), some (.int (nI t)), some (.int (nI (t / np))), some (.int (nI (t % np))), none], [.int (nI (t % np)), .int (nI (t / np))], (zw_M (upd (upd g 12 (nI L)) 25 x25) gl (va_up (va_up (va_up a 6 fl) 12 f12) 13 f13) al))) 3 rfl ?_
    refine zr_ige (x := nI (t / np)) (y := nI (t % np)) (t / np) (t % np) rfl rfl (by omega) (by omega) (t := (140, [some (.ref 0), some (.int (nI t)), some (.int (nI (t / np))), some (.int (nI (t % np))), none], [], (zw_M (upd (upd g 12 (nI L)) 25 x25) gl (va_up (va_up (va_up a 6 fl) 12 f12) 13 f13) al))) (f := (39, [some (.ref 0), some (.int (nI t)), some (.int (nI (t / np))), some (.int (nI (t % np))), none], [], (zw_M (upd (upd g 12 (nI L)) 25 x25) gl (va_up (va_up (va_up a 6 fl) 12 f12) 13 f13) al))) rfl (fun h2 => ?_) (fun h2 => ?_)
    · skip
      have hg0 : zv_gl P N np y o t = false := by unfold zv_gl; rw [decide_eq_false (by omega)]; rfl
      refine zr_go (t := (7, [some (.ref 0), some (.int ((nI t) + 1)), some (.int (nI (t / np))), some (.int (nI (t % np))), none], [], (zw_M (upd (upd g 12 (nI L)) 25 x25) gl (va_up (va_up (va_up a 6 fl) 12 f12) 13 f13) al))) 2 rfl ?_
      rw [show (nI t) + 1 = nI (t + 1) from (zn_add rfl rfl)]
      refine zr_forget [some (.ref 0), some (.int (nI (t + 1))), none, none, none] ⟨Or.inr rfl, Or.inr rfl, Or.inl rfl, Or.inl rfl, Or.inr rfl, trivial⟩ ?_
      exact ih (t + 1, L, x25, fl, f12, f13) ⟨by omega, by rw [hL]; show _ = _ + (zv_gl P N np y o t).toNat; rw [hg0]; rfl, fun s (hs : s < t + 1) h7 => hfl s (by have : s ≠ t := (fun q => by rw [q, hg0] at h7; cases h7); omega) h7⟩ (by omega)
    · skip
      refine zr_go (t := (44, [some (.ref 0), some (.int (nI t)), some (.int (nI (t / np))), some (.int (nI (t % np))), none], [.int (nI (t / np)), .ref 5], (zw_M (upd (upd g 12 (nI L)) 25 x25) gl (va_up (va_up (va_up a 6 fl) 12 f12) 13 f13) al))) 3 rfl ?_
      refine zr_cd (t := (45, [some (.ref 0), some (.int (nI t)), some (.int (nI (t / np))), some (.int (nI (t % np))), none], [.int ((a 5) (nI (t / np)).toNatClampNeg)], (zw_M (upd (upd g 12 (nI L)) 25 x25) gl (va_up (va_up (va_up a 6 fl) 12 f12) 13 f13) al))) rfl (pk_in (t / np) 156 (by omega) rfl (by omega)) ?_
      rw [pk_cl (x := (nI (t / np))) (t / np) rfl (by omega)]
      rw [show (a 5) (t / np) = nI ((o (t / np)).toNat) from hO (t / np) (by omega)]
      have ho1 := zb_le (o (t / np))
      refine zr_ieq (x := nI ((o (t / np)).toNat)) (y := 0) ((o (t / np)).toNat) 0 rfl rfl (by omega) (by omega) (t := (140, [some (.ref 0), some (.int (nI t)), some (.int (nI (t / np))), some (.int (nI (t % np))), none], [], (zw_M (upd (upd g 12 (nI L)) 25 x25) gl (va_up (va_up (va_up a 6 fl) 12 f12) 13 f13) al))) (f := (48, [some (.ref 0), some (.int (nI t)), some (.int (nI (t / np))), some (.int (nI (t % np))), none], [], (zw_M (upd (upd g 12 (nI L)) 25 x25) gl (va_up (va_up (va_up a 6 fl) 12 f12) 13 f13) al))) rfl (fun h3 => ?_) (fun h3 => ?_)
      · skip
        have hg0 : zv_gl P N np y o t = false := by unfold zv_gl; rw [zb_0 h3]; simp
        refine zr_go (t := (7, [some (.ref 0), some (.int ((nI t) + 1)), some (.int (nI (t / np))), some (.int (nI (t % np))), none], [], (zw_M (upd (upd g 12 (nI L)) 25 x25) gl (va_up (va_up (va_up a 6 fl) 12 f12) 13 f13) al))) 2 rfl ?_
        rw [show (nI t) + 1 = nI (t + 1) from (zn_add rfl rfl)]
        refine zr_forget [some (.ref 0), some (.int (nI (t + 1))), none, none, none] ⟨Or.inr rfl, Or.inr rfl, Or.inl rfl, Or.inl rfl, Or.inr rfl, trivial⟩ ?_
        exact ih (t + 1, L, x25, fl, f12, f13) ⟨by omega, by rw [hL]; show _ = _ + (zv_gl P N np y o t).toNat; rw [hg0]; rfl, fun s (hs : s < t + 1) h7 => hfl s (by have : s ≠ t := (fun q => by rw [q, hg0] at h7; cases h7); omega) h7⟩ (by omega)
      · skip
        refine zr_go (t := (53, [some (.ref 0), some (.int (nI t)), some (.int (nI (t / np))), some (.int (nI (t % np))), none], [.int (nI (t % np)), .ref 5], (zw_M (upd (upd g 12 (nI L)) 25 x25) gl (va_up (va_up (va_up a 6 fl) 12 f12) 13 f13) al))) 3 rfl ?_
        refine zr_cd (t := (54, [some (.ref 0), some (.int (nI t)), some (.int (nI (t / np))), some (.int (nI (t % np))), none], [.int ((a 5) (nI (t % np)).toNatClampNeg)], (zw_M (upd (upd g 12 (nI L)) 25 x25) gl (va_up (va_up (va_up a 6 fl) 12 f12) 13 f13) al))) rfl (pk_in (t % np) 156 (by omega) rfl (by omega)) ?_
        rw [pk_cl (x := (nI (t % np))) (t % np) rfl (by omega)]
        rw [show (a 5) (t % np) = nI ((o (t % np)).toNat) from hO (t % np) (by omega)]
        have ho2 := zb_le (o (t % np))
        refine zr_ieq (x := nI ((o (t % np)).toNat)) (y := 0) ((o (t % np)).toNat) 0 rfl rfl (by omega) (by omega) (t := (140, [some (.ref 0), some (.int (nI t)), some (.int (nI (t / np))), some (.int (nI (t % np))), none], [], (zw_M (upd (upd g 12 (nI L)) 25 x25) gl (va_up (va_up (va_up a 6 fl) 12 f12) 13 f13) al))) (f := (57, [some (.ref 0), some (.int (nI t)), some (.int (nI (t / np))), some (.int (nI (t % np))), none], [], (zw_M (upd (upd g 12 (nI L)) 25 x25) gl (va_up (va_up (va_up a 6 fl) 12 f12) 13 f13) al))) rfl (fun h4 => ?_) (fun h4 => ?_)
        · skip
          have hg0 : zv_gl P N np y o t = false := by unfold zv_gl; rw [zb_0 h4]; simp
          refine zr_go (t := (7, [some (.ref 0), some (.int ((nI t) + 1)), some (.int (nI (t / np))), some (.int (nI (t % np))), none], [], (zw_M (upd (upd g 12 (nI L)) 25 x25) gl (va_up (va_up (va_up a 6 fl) 12 f12) 13 f13) al))) 2 rfl ?_
          rw [show (nI t) + 1 = nI (t + 1) from (zn_add rfl rfl)]
          refine zr_forget [some (.ref 0), some (.int (nI (t + 1))), none, none, none] ⟨Or.inr rfl, Or.inr rfl, Or.inl rfl, Or.inl rfl, Or.inr rfl, trivial⟩ ?_
          exact ih (t + 1, L, x25, fl, f12, f13) ⟨by omega, by rw [hL]; show _ = _ + (zv_gl P N np y o t).toNat; rw [hg0]; rfl, fun s (hs : s < t + 1) h7 => hfl s (by have : s ≠ t := (fun q => by rw [q, hg0] at h7; cases h7); omega) h7⟩ (by omega)
        · skip
          refine zr_go (t := (60, [some (.ref 0), some (.int (nI t)), some (.int (nI (t / np))), some (.int (nI (t % np))), none], [.int (nI (t % np)), .int (nI (t / np)), .ref 0], (zw_M (upd (upd g 12 (nI L)) 25 x25) gl (va_up (va_up (va_up a 6 fl) 12 f12) 13 f13) al))) 3 rfl ?_
          have hvv := fun b hb => hv (t / np) (t % np) b hp1 hq1 (by omega) hb
          refine zr_call (t := (63, [some (.ref 0), some (.int (nI t)), some (.int (nI (t / np))), some (.int (nI (t % np))), none], [], (zw_M (upd (upd g 12 (nI L)) 25 x25) gl (va_up (va_up (va_up a 6 fl) 12 f12) 13 f13) al))) rfl (Nat.le_of_ble_eq_true rfl : 4 ≤ 4) (zs_M_layLine (upd (upd g 12 (nI L)) 25 x25) gl (va_up (va_up (va_up a 6 fl) 12 f12) 13 f13) al P N hP hN hPP hN6 hA hnum np y hR (t / np) (t % np) hp1 hq1 hvv) ?_
          rintro _ _ ⟨rfl, e12, h, rfl, hh⟩
          show zm_Run zt_get 4 zt_M_layLines (63, [some (.ref 0), some (.int (nI t)), some (.int (nI (t / np))), some (.int (nI (t % np))), none], [], (zw_M (upd (upd g 12 (nI L)) 25 (nI (P + 1))) gl (va_up (va_up (va_up a 6 fl) 12 e12) 13 h) al)) _
          have hlt := zv_lnf_lt hp1 P (fun b hb => (hvv b hb).2)
          have hl0 := hlt 0 (by omega)
          have hl1 := hlt 1 (by omega)
          refine zr_go (t := (68, [some (.ref 0), some (.int (nI t)), some (.int (nI (t / np))), some (.int (nI (t % np))), none], [.int 0, .ref 13], (zw_M (upd (upd g 12 (nI L)) 25 (nI (P + 1))) gl (va_up (va_up (va_up a 6 fl) 12 e12) 13 h) al))) 3 rfl ?_
          refine zr_cd (t := (69, [some (.ref 0), some (.int (nI t)), some (.int (nI (t / np))), some (.int (nI (t % np))), none], [.int (h (0 : Int32).toNatClampNeg)], (zw_M (upd (upd g 12 (nI L)) 25 (nI (P + 1))) gl (va_up (va_up (va_up a 6 fl) 12 e12) 13 h) al))) rfl (pk_in 0 31 (by omega) rfl (by omega)) ?_
          rw [pk_cl (x := (0 : Int32)) 0 rfl (by omega)]
          rw [show h 0 = nI (zv_lnf P N y (t / np) (t % np) P 0) from hh 0 (by omega)]
          refine zr_go (t := (70, [some (.ref 0), some (.int (nI t)), some (.int (nI (t / np))), some (.int (nI (t % np))), none], [.int (nI (t / np)), .int (nI (zv_lnf P N y (t / np) (t % np) P 0))], (zw_M (upd (upd g 12 (nI L)) 25 (nI (P + 1))) gl (va_up (va_up (va_up a 6 fl) 12 e12) 13 h) al))) 1 rfl ?_
          refine zr_ine (x := nI (zv_lnf P N y (t / np) (t % np) P 0)) (y := nI (t / np)) (zv_lnf P N y (t / np) (t % np) P 0) (t / np) rfl rfl (by omega) (by omega) (t := (140, [some (.ref 0), some (.int (nI t)), some (.int (nI (t / np))), some (.int (nI (t % np))), none], [], (zw_M (upd (upd g 12 (nI L)) 25 (nI (P + 1))) gl (va_up (va_up (va_up a 6 fl) 12 e12) 13 h) al))) (f := (73, [some (.ref 0), some (.int (nI t)), some (.int (nI (t / np))), some (.int (nI (t % np))), none], [], (zw_M (upd (upd g 12 (nI L)) 25 (nI (P + 1))) gl (va_up (va_up (va_up a 6 fl) 12 e12) 13 h) al))) rfl (fun h5 => ?_) (fun h5 => ?_)
          · skip
            have hg0 : zv_gl P N np y o t = false := by unfold zv_gl; simp [h5]
            refine zr_go (t := (7, [some (.ref 0), some (.int ((nI t) + 1)), some (.int (nI (t / np))), some (.int (nI (t % np))), none], [], (zw_M (upd (upd g 12 (nI L)) 25 (nI (P + 1))) gl (va_up (va_up (va_up a 6 fl) 12 e12) 13 h) al))) 2 rfl ?_
            rw [show (nI t) + 1 = nI (t + 1) from (zn_add rfl rfl)]
            refine zr_forget [some (.ref 0), some (.int (nI (t + 1))), none, none, none] ⟨Or.inr rfl, Or.inr rfl, Or.inl rfl, Or.inl rfl, Or.inr rfl, trivial⟩ ?_
            exact ih (t + 1, L, nI (P + 1), fl, e12, h) ⟨by omega, by rw [hL]; show _ = _ + (zv_gl P N np y o t).toNat; rw [hg0]; rfl, fun s (hs : s < t + 1) h7 => hfl s (by have : s ≠ t := (fun q => by rw [q, hg0] at h7; cases h7); omega) h7⟩ (by omega)
          · skip
            refine zr_go (t := (78, [some (.ref 0), some (.int (nI t)), some (.int (nI (t / np))), some (.int (nI (t % np))), none], [.int 1, .ref 13], (zw_M (upd (upd g 12 (nI L)) 25 (nI (P + 1))) gl (va_up (va_up (va_up a 6 fl) 12 e12) 13 h) al))) 3 rfl ?_
            refine zr_cd (t := (79, [some (.ref 0), some (.int (nI t)), some (.int (nI (t / np))), some (.int (nI (t % np))), none], [.int (h (1 : Int32).toNatClampNeg)], (zw_M (upd (upd g 12 (nI L)) 25 (nI (P + 1))) gl (va_up (va_up (va_up a 6 fl) 12 e12) 13 h) al))) rfl (pk_in 1 31 (by omega) rfl (by omega)) ?_
            rw [pk_cl (x := (1 : Int32)) 1 rfl (by omega)]
            rw [show h 1 = nI (zv_lnf P N y (t / np) (t % np) P 1) from hh 1 (by omega)]
            refine zr_go (t := (80, [some (.ref 0), some (.int (nI t)), some (.int (nI (t / np))), some (.int (nI (t % np))), none], [.int (nI (t % np)), .int (nI (zv_lnf P N y (t / np) (t % np) P 1))], (zw_M (upd (upd g 12 (nI L)) 25 (nI (P + 1))) gl (va_up (va_up (va_up a 6 fl) 12 e12) 13 h) al))) 1 rfl ?_
            refine zr_ine (x := nI (zv_lnf P N y (t / np) (t % np) P 1)) (y := nI (t % np)) (zv_lnf P N y (t / np) (t % np) P 1) (t % np) rfl rfl (by omega) (by omega) (t := (140, [some (.ref 0), some (.int (nI t)), some (.int (nI (t / np))), some (.int (nI (t % np))), none], [], (zw_M (upd (upd g 12 (nI L)) 25 (nI (P + 1))) gl (va_up (va_up (va_up a 6 fl) 12 e12) 13 h) al))) (f := (83, [some (.ref 0), some (.int (nI t)), some (.int (nI (t / np))), some (.int (nI (t % np))), none], [], (zw_M (upd (upd g 12 (nI L)) 25 (nI (P + 1))) gl (va_up (va_up (va_up a 6 fl) 12 e12) 13 h) al))) rfl (fun h6 => ?_) (fun h6 => ?_)
            · skip
              have hg0 : zv_gl P N np y o t = false := by unfold zv_gl; simp [h6]
              refine zr_go (t := (7, [some (.ref 0), some (.int ((nI t) + 1)), some (.int (nI (t / np))), some (.int (nI (t % np))), none], [], (zw_M (upd (upd g 12 (nI L)) 25 (nI (P + 1))) gl (va_up (va_up (va_up a 6 fl) 12 e12) 13 h) al))) 2 rfl ?_
              rw [show (nI t) + 1 = nI (t + 1) from (zn_add rfl rfl)]
              refine zr_forget [some (.ref 0), some (.int (nI (t + 1))), none, none, none] ⟨Or.inr rfl, Or.inr rfl, Or.inl rfl, Or.inl rfl, Or.inr rfl, trivial⟩ ?_
              exact ih (t + 1, L, nI (P + 1), fl, e12, h) ⟨by omega, by rw [hL]; show _ = _ + (zv_gl P N np y o t).toNat; rw [hg0]; rfl, fun s (hs : s < t + 1) h7 => hfl s (by have : s ≠ t := (fun q => by rw [q, hg0] at h7; cases h7); omega) h7⟩ (by omega)
            · skip
              refine zr_go (t := (84, [some (.ref 0), some (.int (nI t)), some (.int (nI (t / np))), some (.int (nI (t % np))), none], [.ref 0], (zw_M (upd (upd g 12 (nI L)) 25 (nI (P + 1))) gl (va_up (va_up (va_up a 6 fl) 12 e12) 13 h) al))) 1 rfl ?_
              refine zr_call (t := (87, [some (.ref 0), some (.int (nI t)), some (.int (nI (t / np))), some (.int (nI (t % np))), none], [], (zw_M (upd (upd g 12 (nI L)) 25 (nI (P + 1))) gl (va_up (va_up (va_up a 6 fl) 12 e12) 13 h) al))) rfl (Nat.le_of_ble_eq_true rfl : 1 ≤ 4) (zs_M_areOn (upd (upd g 12 (nI L)) 25 (nI (P + 1))) gl (va_up (va_up (va_up a 6 fl) 12 e12) 13 h) al np hnp1 o hO (P + 1) (zv_lnf P N y (t / np) (t % np) P) rfl hh (by omega) hlt) ?_
              rintro _ _ ⟨rfl, rfl⟩
              show zm_Run zt_get 4 zt_M_layLines (87, [some (.ref 0), some (.int (nI t)), some (.int (nI (t / np))), some (.int (nI (t % np))), none], [.int (nI ((zA (fun k => o (zv_lnf P N y (t / np) (t % np) P k)) (P + 1)).toNat))], (zw_M (upd (upd g 12 (nI L)) 25 (nI (P + 1))) gl (va_up (va_up (va_up a 6 fl) 12 e12) 13 h) al)) _
              have ho3 := zb_le (zA (fun k => o (zv_lnf P N y (t / np) (t % np) P k)) (P + 1))
              refine zr_ieq (x := nI ((zA (fun k => o (zv_lnf P N y (t / np) (t % np) P k)) (P + 1)).toNat)) (y := 0) ((zA (fun k => o (zv_lnf P N y (t / np) (t % np) P k)) (P + 1)).toNat) 0 rfl rfl (by omega) (by omega) (t := (140, [some (.ref 0), some (.int (nI t)), some (.int (nI (t / np))), some (.int (nI (t % np))), none], [], (zw_M (upd (upd g 12 (nI L)) 25 (nI (P + 1))) gl (va_up (va_up (va_up a 6 fl) 12 e12) 13 h) al))) (f := (90, [some (.ref 0), some (.int (nI t)), some (.int (nI (t / np))), some (.int (nI (t % np))), none], [], (zw_M (upd (upd g 12 (nI L)) 25 (nI (P + 1))) gl (va_up (va_up (va_up a 6 fl) 12 e12) 13 h) al))) rfl (fun h7 => ?_) (fun h7 => ?_)
              · skip
                have hg0 : zv_gl P N np y o t = false := by unfold zv_gl; rw [zb_0 h7]; simp
                refine zr_go (t := (7, [some (.ref 0), some (.int ((nI t) + 1)), some (.int (nI (t / np))), some (.int (nI (t % np))), none], [], (zw_M (upd (upd g 12 (nI L)) 25 (nI (P + 1))) gl (va_up (va_up (va_up a 6 fl) 12 e12) 13 h) al))) 2 rfl ?_
                rw [show (nI t) + 1 = nI (t + 1) from (zn_add rfl rfl)]
                refine zr_forget [some (.ref 0), some (.int (nI (t + 1))), none, none, none] ⟨Or.inr rfl, Or.inr rfl, Or.inl rfl, Or.inl rfl, Or.inr rfl, trivial⟩ ?_
                exact ih (t + 1, L, nI (P + 1), fl, e12, h) ⟨by omega, by rw [hL]; show _ = _ + (zv_gl P N np y o t).toNat; rw [hg0]; rfl, fun s (hs : s < t + 1) h7 => hfl s (by have : s ≠ t := (fun q => by rw [q, hg0] at h7; cases h7); omega) h7⟩ (by omega)
              · skip
                have hg1 : zv_gl P N np y o t = true := by unfold zv_gl; rw [decide_eq_true h2, zb_1 h3, zb_1 h4, zb_1 h7]; simp [h5, h6]
                have hL2 : L + 1 = zC (zv_gl P N np y o) (t + 1) := by rw [hL]; show _ = _ + (zv_gl P N np y o t).toNat; rw [hg1]; rfl
                have hL3 : L + 1 ≤ 128 := by rw [hL2]; exact Nat.le_trans (zC_mono _ (by omega)) hLB
                refine zr_go (t := (93, [some (.ref 0), some (.int (nI t)), some (.int (nI (t / np))), some (.int (nI (t % np))), some (.int 0)], [], (zw_M (upd (upd g 12 (nI L)) 25 (nI (P + 1))) gl (va_up (va_up (va_up a 6 fl) 12 e12) 13 h) al))) 2 rfl ?_
                refine zr_loop (fun zq : Nat × (Nat → Int32) => (93, [some (.ref 0), some (.int (nI t)), some (.int (nI (t / np))), some (.int (nI (t % np))), some (.int (nI zq.1))], [], (zw_M (upd (upd g 12 (nI L)) 25 (nI (P + 1))) gl (va_up (va_up (va_up a 6 zq.2) 12 e12) 13 h) al))) (fun zq => zq.1 ≤ P + 1 ∧ (∀ s, s < 6 * L → zq.2 s = fl s) ∧ ∀ s, s < zq.1 → zq.2 (6 * L + s) = nI (zv_lnf P N y (t / np) (t % np) P s)) (fun zq => P + 1 - zq.1) ?_ (0, fl) ⟨by omega, fun s _ => rfl, fun s h => absurd h (Nat.not_lt_zero s)⟩
                rintro ⟨k, fs⟩ ⟨hk, hs1, hs2⟩ ih3
                try dsimp only at *
                refine zr_go (t := (99, [some (.ref 0), some (.int (nI t)), some (.int (nI (t / np))), some (.int (nI (t % np))), some (.int (nI k))], [.int (nI (P + 1)), .int (nI k)], (zw_M (upd (upd g 12 (nI L)) 25 (nI (P + 1))) gl (va_up (va_up (va_up a 6 fs) 12 e12) 13 h) al))) 3 rfl ?_
                refine zr_ige (x := nI k) (y := nI (P + 1)) k (P + 1) rfl rfl (by omega) (by omega) (t := (130, [some (.ref 0), some (.int (nI t)), some (.int (nI (t / np))), some (.int (nI (t % np))), some (.int (nI k))], [], (zw_M (upd (upd g 12 (nI L)) 25 (nI (P + 1))) gl (va_up (va_up (va_up a 6 fs) 12 e12) 13 h) al))) (f := (102, [some (.ref 0), some (.int (nI t)), some (.int (nI (t / np))), some (.int (nI (t % np))), some (.int (nI k))], [], (zw_M (upd (upd g 12 (nI L)) 25 (nI (P + 1))) gl (va_up (va_up (va_up a 6 fs) 12 e12) 13 h) al))) rfl (fun h8 => ?_) (fun h8 => ?_)
                · skip
                  refine zr_go (t := (7, [some (.ref 0), some (.int ((nI t) + 1)), some (.int (nI (t / np))), some (.int (nI (t % np))), some (.int (nI k))], [], (zw_M (upd (upd g 12 ((nI L) + 1)) 25 (nI (P + 1))) gl (va_up (va_up (va_up a 6 fs) 12 e12) 13 h) al))) 8 rfl ?_
                  rw [show (nI t) + 1 = nI (t + 1) from (zn_add rfl rfl)]
                  rw [show (nI L) + 1 = nI (L + 1) from (zn_add rfl rfl)]
                  refine zr_forget [some (.ref 0), some (.int (nI (t + 1))), none, none, none] ⟨Or.inr rfl, Or.inr rfl, Or.inl rfl, Or.inl rfl, Or.inl rfl, trivial⟩ ?_
                  exact ih (t + 1, L + 1, nI (P + 1), fs, e12, h) ⟨by omega, hL2, fun s (hs : s < t + 1) h9 k2 hk2 => if e : s = t then by subst e; rw [← hL]; exact hs2 k2 (by omega) else (hs1 _ (by have h10 : zC (zv_gl P N np y o) s + 1 ≤ zC (zv_gl P N np y o) t := zC_lt h9 (by omega); omega)).trans (hfl s (by omega) h9 k2 hk2)⟩ (by omega)
                · skip
                  refine zr_go (t := (122, [some (.ref 0), some (.int (nI t)), some (.int (nI (t / np))), some (.int (nI (t % np))), some (.int (nI k))], [.int (nI k), .ref 13, .int ((6 * (nI L)) + (nI k)), .ref 6], (zw_M (upd (upd g 12 (nI L)) 25 (nI (P + 1))) gl (va_up (va_up (va_up a 6 fs) 12 e12) 13 h) al))) 11 rfl ?_
                  refine zr_cd (t := (123, [some (.ref 0), some (.int (nI t)), some (.int (nI (t / np))), some (.int (nI (t % np))), some (.int (nI k))], [.int (h (nI k).toNatClampNeg), .int ((6 * (nI L)) + (nI k)), .ref 6], (zw_M (upd (upd g 12 (nI L)) 25 (nI (P + 1))) gl (va_up (va_up (va_up a 6 fs) 12 e12) 13 h) al))) rfl (pk_in k 31 (by omega) rfl (by omega)) ?_
                  rw [pk_cl (x := (nI k)) k rfl (by omega)]
                  rw [show h k = nI (zv_lnf P N y (t / np) (t % np) P k) from hh k (by omega)]
                  refine zr_cd (t := (124, [some (.ref 0), some (.int (nI t)), some (.int (nI (t / np))), some (.int (nI (t % np))), some (.int (nI k))], [], (zw_M (upd (upd g 12 (nI L)) 25 (nI (P + 1))) gl (va_up (va_up (va_up a 6 (upd fs (((6 * (nI L)) + (nI k)).toNatClampNeg) (nI (zv_lnf P N y (t / np) (t % np) P k)))) 12 e12) 13 h) al))) rfl (pk_in ((6 * L) + k) 768 (by omega) (zn_add (zn_mul rfl rfl) rfl) (by omega)) ?_
                  rw [pk_cl (x := ((6 * (nI L)) + (nI k))) ((6 * L) + k) (zn_add (zn_mul rfl rfl) rfl) (by omega)]
                  refine zr_go (t := (93, [some (.ref 0), some (.int (nI t)), some (.int (nI (t / np))), some (.int (nI (t % np))), some (.int ((nI k) + 1))], [], (zw_M (upd (upd g 12 (nI L)) 25 (nI (P + 1))) gl (va_up (va_up (va_up a 6 (upd fs ((6 * L) + k) (nI (zv_lnf P N y (t / np) (t % np) P k)))) 12 e12) 13 h) al))) 2 rfl ?_
                  rw [show (nI k) + 1 = nI (k + 1) from (zn_add rfl rfl)]
                  exact ih3 (k + 1, (upd fs ((6 * L) + k) (nI (zv_lnf P N y (t / np) (t % np) P k)))) ⟨by omega, fun s h => (pk_un (by omega)).trans (hs1 s h), fun s h => if e : s = k then by subst e; exact pk_us else (pk_un (by omega)).trans (hs2 s (by omega))⟩ (by omega)
end
section
/-! the reference: all planes (written by wip/whole/gen_m8.py) -/
theorem zE_no {f : Nat → Bool} {n k : Nat} (h : zE f n = false) (hk : k < n) : f k = false := by
  induction n with
  | zero => omega
  | succ n ih =>
    obtain ⟨h1, h2⟩ := Bool.or_eq_false_iff.mp (show (zE f n || f n) = false from h)
    by_cases e : k = n
    · rw [e]; exact h2
    · exact ih h1 (by omega)
/-- a point behind the line's first two makes a plane with it that is all on, and is the least of it beside the line -/
def zv_gp (P N : Nat) (y : Nat → Nat → Nat) (o : Nat → Bool) (p0 q0 p : Nat) : Bool := !zE (fun k => zv_lnf P N y p0 q0 P k == p) (P + 1) && ((((zv_wf P N y (zv_lnf P N y p0 q0 P) p ((P + 1) * (P - 1)) 0 == p0) && (zv_wf P N y (zv_lnf P N y p0 q0 P) p ((P + 1) * (P - 1)) 1 == q0)) && zA (fun k => decide (p ≤ zv_wf P N y (zv_lnf P N y p0 q0 P) p ((P + 1) * (P - 1)) k) || zE (fun t => zv_lnf P N y p0 q0 P t == zv_wf P N y (zv_lnf P N y p0 q0 P) p ((P + 1) * (P - 1)) k) (P + 1)) (P + 2 + (P + 1) * (P - 1))) && zA (fun k => o (zv_wf P N y (zv_lnf P N y p0 q0 P) p ((P + 1) * (P - 1)) k)) (P + 2 + (P + 1) * (P - 1)))
theorem zv_nn {P : Nat} (hPP : P = 2 ∨ P = 3 ∨ P = 5) : (P + 2 + (P + 1) * (P - 1)) ≤ 31 ∧ 2 ≤ (P + 2 + (P + 1) * (P - 1)) := by rcases hPP with rfl | rfl | rfl <;> decide
theorem zv_sb {P s : Nat} (hPP : P = 2 ∨ P = 3 ∨ P = 5) (h : s < ((P + 1) * (P - 1))) : s % (P - 1) + 1 < P ∧ s / (P - 1) < P + 1 := by
  have h0 : 0 < P - 1 := by omega
  exact ⟨by have := Nat.mod_lt s h0; omega, Nat.div_lt_of_lt_mul (by rw [Nat.mul_comm]; exact h)⟩
theorem zs_M_layPlane (g : Nat → Int32) (gl : Nat → Int64) (a : Nat → Nat → Int32) (al : Nat → Nat → Int64) (P N : Nat) (hP : g 0 = nI P) (hN : g 1 = nI N) (hPP : P = 2 ∨ P = 3 ∨ P = 5) (hN6 : N ≤ 6) (hA : P ^ N ≤ 729) (hnum : ∀ t, 1 ≤ t → t < P ^ N → a 4 t = if zv_l1 P N t then nI (zv_cnt P N t) else -1) (np : Nat) (y : Nat → Nat → Nat) (hR : zc_R g a np y) (o : Nat → Bool) (hO : zc_O a np o) (hv : ∀ p q b, p < np → q < np → p ≠ q → b < P → zv_vec P N (zv_mx P b 1 (y p) (y q)) ∧ zv_pt P N (zv_mx P b 1 (y p) (y q)) < np) (L l p0 q0 p : Nat) (hL : zv_gp P N y o p0 q0 p = true → L + 1 ≤ 30) (hL30 : L ≤ 30) (hl : ∀ k, k < P + 1 → a 6 (6 * l + k) = nI (zv_lnf P N y p0 q0 P k)) (hl128 : l < 128) (hl0 : zv_lnf P N y p0 q0 P 0 = p0) (hl1 : zv_lnf P N y p0 q0 P 1 = q0) (hp0 : p0 < np) (hq0 : q0 < np) (hpq : p0 ≠ q0) (hp : p < np) : zm_Ev zt_get 5 136 [.ref 0, .int (nI l), .int (nI p)] (zw_M (upd g 14 (nI L)) gl a al) (fun v w => v = none ∧ ∃ x25 fp f12 f13 f14, w = (zw_M (upd (upd g 14 (nI (L + (zv_gp P N y o p0 q0 p).toNat))) 25 x25) gl (va_up (va_up (va_up (va_up a 7 fp) 12 f12) 13 f13) 14 f14) al) ∧ (zv_gp P N y o p0 q0 p = true → ∀ k, k < (P + 2 + (P + 1) * (P - 1)) → fp (7 * L + k) = nI (zv_wf P N y (zv_lnf P N y p0 q0 P) p ((P + 1) * (P - 1)) k)) ∧ ∀ t, t < 7 * L → fp t = a 7 t) := by
  obtain ⟨hP0, hP5⟩ := zv_P5 hPP
  obtain ⟨hnp, hnp1, hy, hy4⟩ := id hR
  obtain ⟨hn31, hn2⟩ := zv_nn hPP
  have hvv := fun b hb => hv p0 q0 b hp0 hq0 hpq hb
  have hlt := zv_lnf_lt hp0 P (fun b hb => (hvv b hb).2)
  refine zr_ev zt_M_layPlane rfl rfl ?_
  show zm_Run zt_get 4 zt_M_layPlane (0, [some (.ref 0), some (.int (nI l)), some (.int (nI p)), none, none], [], (zw_M (upd g 14 (nI L)) gl a al)) _
  refine zr_go (t := (9, [some (.ref 0), some (.int (nI l)), some (.int (nI p)), none, none], [.int (6 * (nI l)), .ref 6, .ref 0], (zw_M (upd g 14 (nI L)) gl a al))) 6 rfl ?_
  refine zr_cd (t := (10, [some (.ref 0), some (.int (nI l)), some (.int (nI p)), none, none], [.int ((a 6) (6 * (nI l)).toNatClampNeg), .ref 0], (zw_M (upd g 14 (nI L)) gl a al))) rfl (pk_in (6 * l) 768 (by omega) (zn_mul rfl rfl) (by omega)) ?_
  rw [pk_cl (x := (6 * (nI l))) (6 * l) (zn_mul rfl rfl) (by omega)]
  rw [show (a 6) (6 * l) = nI p0 from (hl 0 (by omega)).trans (congrArg nI hl0)]
  refine zr_go (t := (20, [some (.ref 0), some (.int (nI l)), some (.int (nI p)), none, none], [.int ((6 * (nI l)) + 1), .ref 6, .int (nI p0), .ref 0], (zw_M (upd g 14 (nI L)) gl a al))) 7 rfl ?_
  refine zr_cd (t := (21, [some (.ref 0), some (.int (nI l)), some (.int (nI p)), none, none], [.int ((a 6) ((6 * (nI l)) + 1).toNatClampNeg), .int (nI p0), .ref 0], (zw_M (upd g 14 (nI L)) gl a al))) rfl (pk_in ((6 * l) + 1) 768 (by omega) (zn_add (zn_mul rfl rfl) rfl) (by omega)) ?_
  rw [pk_cl (x := ((6 * (nI l)) + 1)) ((6 * l) + 1) (zn_add (zn_mul rfl rfl) rfl) (by omega)]
  rw [show (a 6) ((6 * l) + 1) = nI q0 from (hl 1 (by omega)).trans (congrArg nI hl1)]
  refine zr_call (t := (24, [some (.ref 0), some (.int (nI l)), some (.int (nI p)), none, none], [], (zw_M (upd g 14 (nI L)) gl a al))) rfl (Nat.le_of_ble_eq_true rfl : 4 ≤ 4) (zs_M_layLine (upd g 14 (nI L)) gl a al P N hP hN hPP hN6 hA hnum np y hR p0 q0 hp0 hq0 hvv) ?_
  rintro _ _ ⟨rfl, e12, h, rfl, hh⟩
  show zm_Run zt_get 4 zt_M_layPlane (24, [some (.ref 0), some (.int (nI l)), some (.int (nI p)), none, none], [], (zw_M (upd (upd g 14 (nI L)) 25 (nI (P + 1))) gl (va_up (va_up a 12 e12) 13 h) al)) _
  refine zr_go (t := (26, [some (.ref 0), some (.int (nI l)), some (.int (nI p)), none, none], [.int (nI p), .ref 0], (zw_M (upd (upd g 14 (nI L)) 25 (nI (P + 1))) gl (va_up (va_up a 12 e12) 13 h) al))) 2 rfl ?_
  refine zr_call (t := (29, [some (.ref 0), some (.int (nI l)), some (.int (nI p)), none, none], [], (zw_M (upd (upd g 14 (nI L)) 25 (nI (P + 1))) gl (va_up (va_up a 12 e12) 13 h) al))) rfl (Nat.le_of_ble_eq_true rfl : 1 ≤ 4) (zs_M_isIn (upd (upd g 14 (nI L)) 25 (nI (P + 1))) gl (va_up (va_up a 12 e12) 13 h) al p (by omega) (P + 1) (zv_lnf P N y p0 q0 P) rfl hh (by omega) (fun k hk => Nat.lt_of_lt_of_le (hlt k hk) (by omega))) ?_
  rintro _ _ ⟨rfl, rfl⟩
  show zm_Run zt_get 4 zt_M_layPlane (29, [some (.ref 0), some (.int (nI l)), some (.int (nI p)), none, none], [.int (nI ((zE (fun k => zv_lnf P N y p0 q0 P k == p) (P + 1)).toNat))], (zw_M (upd (upd g 14 (nI L)) 25 (nI (P + 1))) gl (va_up (va_up a 12 e12) 13 h) al)) _
  have hz1 := zb_le (zE (fun k => zv_lnf P N y p0 q0 P k == p) (P + 1))
  refine zr_ieq (x := nI ((zE (fun k => zv_lnf P N y p0 q0 P k == p) (P + 1)).toNat)) (y := 0) ((zE (fun k => zv_lnf P N y p0 q0 P k == p) (P + 1)).toNat) 0 rfl rfl (by omega) (by omega) (t := (33, [some (.ref 0), some (.int (nI l)), some (.int (nI p)), none, none], [], (zw_M (upd (upd g 14 (nI L)) 25 (nI (P + 1))) gl (va_up (va_up a 12 e12) 13 h) al))) (f := (32, [some (.ref 0), some (.int (nI l)), some (.int (nI p)), none, none], [], (zw_M (upd (upd g 14 (nI L)) 25 (nI (P + 1))) gl (va_up (va_up a 12 e12) 13 h) al))) rfl (fun h1 => ?_) (fun h1 => ?_)
  · skip
    have hz := zb_0 h1
    have hvw : ∀ s, s < ((P + 1) * (P - 1)) → zv_vec P N (zv_mx P (s % (P - 1) + 1) 1 (y (zv_lnf P N y p0 q0 P (s / (P - 1)))) (y p)) ∧ zv_pt P N (zv_mx P (s % (P - 1) + 1) 1 (y (zv_lnf P N y p0 q0 P (s / (P - 1)))) (y p)) < np := by
      intro s hs
      obtain ⟨b1, b2⟩ := zv_sb hPP hs
      exact hv _ p _ (hlt _ b2) hp (fun q => by have := zE_no hz b2; simp [q] at this) b1
    have hwt := zv_wf_lt hlt hp ((P + 1) * (P - 1)) (fun s hs => (hvw s hs).2)
    refine zr_go (t := (35, [some (.ref 0), some (.int (nI l)), some (.int (nI p)), none, none], [.int (nI p), .ref 0], (zw_M (upd (upd g 14 (nI L)) 25 (nI (P + 1))) gl (va_up (va_up a 12 e12) 13 h) al))) 2 rfl ?_
    refine zr_call (t := (38, [some (.ref 0), some (.int (nI l)), some (.int (nI p)), none, none], [], (zw_M (upd (upd g 14 (nI L)) 25 (nI (P + 1))) gl (va_up (va_up a 12 e12) 13 h) al))) rfl (Nat.le_of_ble_eq_true rfl : 4 ≤ 4) (zs_M_widen (upd (upd g 14 (nI L)) 25 (nI (P + 1))) gl (va_up (va_up a 12 e12) 13 h) al P N hP hN hPP hN6 hA hnum np y hR p hp (zv_lnf P N y p0 q0 P) rfl hh hlt hvw) ?_
    rintro _ _ ⟨rfl, d12, d13, d14, rfl, hd13⟩
    show zm_Run zt_get 4 zt_M_layPlane (38, [some (.ref 0), some (.int (nI l)), some (.int (nI p)), none, none], [], (zw_M (upd (upd g 14 (nI L)) 25 (nI (P + 2 + (P + 1) * (P - 1)))) gl (va_up (va_up (va_up a 12 d12) 13 d13) 14 d14) al)) _
    have hw0 := hwt 0 (by omega)
    have hw1 := hwt 1 (by omega)
    have tail : ∀ b0 : Bool, b0 = ((zv_wf P N y (zv_lnf P N y p0 q0 P) p ((P + 1) * (P - 1)) 0 == p0) && (zv_wf P N y (zv_lnf P N y p0 q0 P) p ((P + 1) * (P - 1)) 1 == q0)) → zm_Run zt_get 4 zt_M_layPlane (82, [some (.ref 0), some (.int (nI l)), some (.int (nI p)), some (.int (nI b0.toNat)), none], [], (zw_M (upd (upd g 14 (nI L)) 25 (nI (P + 2 + (P + 1) * (P - 1)))) gl (va_up (va_up (va_up a 12 d12) 13 d13) 14 d14) al)) (fun v w => v = none ∧ ∃ x25 fp f12 f13 f14, w = (zw_M (upd (upd g 14 (nI (L + (zv_gp P N y o p0 q0 p).toNat))) 25 x25) gl (va_up (va_up (va_up (va_up a 7 fp) 12 f12) 13 f13) 14 f14) al) ∧ (zv_gp P N y o p0 q0 p = true → ∀ k, k < (P + 2 + (P + 1) * (P - 1)) → fp (7 * L + k) = nI (zv_wf P N y (zv_lnf P N y p0 q0 P) p ((P + 1) * (P - 1)) k)) ∧ ∀ t, t < 7 * L → fp t = a 7 t) := by
      intro b0 hb0
      refine zr_go (t := (85, [some (.ref 0), some (.int (nI l)), some (.int (nI p)), some (.int (nI b0.toNat)), some (.int 0)], [], (zw_M (upd (upd g 14 (nI L)) 25 (nI (P + 2 + (P + 1) * (P - 1)))) gl (va_up (va_up (va_up a 12 d12) 13 d13) 14 d14) al))) 2 rfl ?_
      refine zr_loop (fun zq : Nat × Bool => (85, [some (.ref 0), some (.int (nI l)), some (.int (nI p)), some (.int (nI zq.2.toNat)), some (.int (nI zq.1))], [], (zw_M (upd (upd g 14 (nI L)) 25 (nI (P + 2 + (P + 1) * (P - 1)))) gl (va_up (va_up (va_up a 12 d12) 13 d13) 14 d14) al))) (fun zq => zq.1 ≤ (P + 2 + (P + 1) * (P - 1)) ∧ zq.2 = (b0 && zA (fun s => decide (p ≤ zv_wf P N y (zv_lnf P N y p0 q0 P) p ((P + 1) * (P - 1)) s) || zE (fun t => zv_lnf P N y p0 q0 P t == zv_wf P N y (zv_lnf P N y p0 q0 P) p ((P + 1) * (P - 1)) s) (P + 1)) zq.1)) (fun zq => (P + 2 + (P + 1) * (P - 1)) - zq.1) ?_ (0, b0) ⟨by omega, by simp [zA]⟩
      rintro ⟨k, b⟩ ⟨hk, hb⟩ ih
      try dsimp only at *
      refine zr_go (t := (91, [some (.ref 0), some (.int (nI l)), some (.int (nI p)), some (.int (nI b.toNat)), some (.int (nI k))], [.int (nI (P + 2 + (P + 1) * (P - 1))), .int (nI k)], (zw_M (upd (upd g 14 (nI L)) 25 (nI (P + 2 + (P + 1) * (P - 1)))) gl (va_up (va_up (va_up a 12 d12) 13 d13) 14 d14) al))) 3 rfl ?_
      refine zr_ige (x := nI k) (y := nI (P + 2 + (P + 1) * (P - 1))) k (P + 2 + (P + 1) * (P - 1)) rfl rfl (by omega) (by omega) (t := (136, [some (.ref 0), some (.int (nI l)), some (.int (nI p)), some (.int (nI b.toNat)), some (.int (nI k))], [], (zw_M (upd (upd g 14 (nI L)) 25 (nI (P + 2 + (P + 1) * (P - 1)))) gl (va_up (va_up (va_up a 12 d12) 13 d13) 14 d14) al))) (f := (94, [some (.ref 0), some (.int (nI l)), some (.int (nI p)), some (.int (nI b.toNat)), some (.int (nI k))], [], (zw_M (upd (upd g 14 (nI L)) 25 (nI (P + 2 + (P + 1) * (P - 1)))) gl (va_up (va_up (va_up a 12 d12) 13 d13) 14 d14) al))) rfl (fun h2 => ?_) (fun h2 => ?_)
      · skip
        have ek : k = (P + 2 + (P + 1) * (P - 1)) := by omega
        subst ek
        have hb1 := zb_le b
        refine zr_go (t := (137, [some (.ref 0), some (.int (nI l)), some (.int (nI p)), some (.int (nI b.toNat)), some (.int (nI (P + 2 + (P + 1) * (P - 1))))], [.int (nI b.toNat)], (zw_M (upd (upd g 14 (nI L)) 25 (nI (P + 2 + (P + 1) * (P - 1)))) gl (va_up (va_up (va_up a 12 d12) 13 d13) 14 d14) al))) 1 rfl ?_
        refine zr_ieq (x := nI b.toNat) (y := 0) b.toNat 0 rfl rfl (by omega) (by omega) (t := (197, [some (.ref 0), some (.int (nI l)), some (.int (nI p)), some (.int (nI b.toNat)), some (.int (nI (P + 2 + (P + 1) * (P - 1))))], [], (zw_M (upd (upd g 14 (nI L)) 25 (nI (P + 2 + (P + 1) * (P - 1)))) gl (va_up (va_up (va_up a 12 d12) 13 d13) 14 d14) al))) (f := (140, [some (.ref 0), some (.int (nI l)), some (.int (nI p)), some (.int (nI b.toNat)), some (.int (nI (P + 2 + (P + 1) * (P - 1))))], [], (zw_M (upd (upd g 14 (nI L)) 25 (nI (P + 2 + (P + 1) * (P - 1)))) gl (va_up (va_up (va_up a 12 d12) 13 d13) 14 d14) al))) rfl (fun h3 => ?_) (fun h3 => ?_)
        · skip
          have hg0 : zv_gp P N y o p0 q0 p = false := by unfold zv_gp; rw [← hb0, ← hb, zb_0 h3]; simp
          exact zr_ret rfl trivial ⟨rfl, nI (P + 2 + (P + 1) * (P - 1)), a 7, d12, d13, d14, by rw [hg0]; rfl, fun q => absurd q (by rw [hg0]; decide), fun t _ => rfl⟩
        · skip
          refine zr_go (t := (141, [some (.ref 0), some (.int (nI l)), some (.int (nI p)), some (.int (nI b.toNat)), some (.int (nI (P + 2 + (P + 1) * (P - 1))))], [.ref 0], (zw_M (upd (upd g 14 (nI L)) 25 (nI (P + 2 + (P + 1) * (P - 1)))) gl (va_up (va_up (va_up a 12 d12) 13 d13) 14 d14) al))) 1 rfl ?_
          refine zr_call (t := (144, [some (.ref 0), some (.int (nI l)), some (.int (nI p)), some (.int (nI b.toNat)), some (.int (nI (P + 2 + (P + 1) * (P - 1))))], [], (zw_M (upd (upd g 14 (nI L)) 25 (nI (P + 2 + (P + 1) * (P - 1)))) gl (va_up (va_up (va_up a 12 d12) 13 d13) 14 d14) al))) rfl (Nat.le_of_ble_eq_true rfl : 1 ≤ 4) (zs_M_areOn (upd (upd g 14 (nI L)) 25 (nI (P + 2 + (P + 1) * (P - 1)))) gl (va_up (va_up (va_up a 12 d12) 13 d13) 14 d14) al np hnp1 o hO (P + 2 + (P + 1) * (P - 1)) (zv_wf P N y (zv_lnf P N y p0 q0 P) p ((P + 1) * (P - 1))) rfl hd13 hn31 hwt) ?_
          rintro _ _ ⟨rfl, rfl⟩
          show zm_Run zt_get 4 zt_M_layPlane (144, [some (.ref 0), some (.int (nI l)), some (.int (nI p)), some (.int (nI b.toNat)), some (.int (nI (P + 2 + (P + 1) * (P - 1))))], [.int (nI ((zA (fun k => o (zv_wf P N y (zv_lnf P N y p0 q0 P) p ((P + 1) * (P - 1)) k)) (P + 2 + (P + 1) * (P - 1))).toNat))], (zw_M (upd (upd g 14 (nI L)) 25 (nI (P + 2 + (P + 1) * (P - 1)))) gl (va_up (va_up (va_up a 12 d12) 13 d13) 14 d14) al)) _
          have ho1 := zb_le (zA (fun k => o (zv_wf P N y (zv_lnf P N y p0 q0 P) p ((P + 1) * (P - 1)) k)) (P + 2 + (P + 1) * (P - 1)))
          refine zr_ieq (x := nI ((zA (fun k => o (zv_wf P N y (zv_lnf P N y p0 q0 P) p ((P + 1) * (P - 1)) k)) (P + 2 + (P + 1) * (P - 1))).toNat)) (y := 0) ((zA (fun k => o (zv_wf P N y (zv_lnf P N y p0 q0 P) p ((P + 1) * (P - 1)) k)) (P + 2 + (P + 1) * (P - 1))).toNat) 0 rfl rfl (by omega) (by omega) (t := (197, [some (.ref 0), some (.int (nI l)), some (.int (nI p)), some (.int (nI b.toNat)), some (.int (nI (P + 2 + (P + 1) * (P - 1))))], [], (zw_M (upd (upd g 14 (nI L)) 25 (nI (P + 2 + (P + 1) * (P - 1)))) gl (va_up (va_up (va_up a 12 d12) 13 d13) 14 d14) al))) (f := (147, [some (.ref 0), some (.int (nI l)), some (.int (nI p)), some (.int (nI b.toNat)), some (.int (nI (P + 2 + (P + 1) * (P - 1))))], [], (zw_M (upd (upd g 14 (nI L)) 25 (nI (P + 2 + (P + 1) * (P - 1)))) gl (va_up (va_up (va_up a 12 d12) 13 d13) 14 d14) al))) rfl (fun h4 => ?_) (fun h4 => ?_)
          · skip
            have hg0 : zv_gp P N y o p0 q0 p = false := by unfold zv_gp; rw [zb_0 h4]; simp
            exact zr_ret rfl trivial ⟨rfl, nI (P + 2 + (P + 1) * (P - 1)), a 7, d12, d13, d14, by rw [hg0]; rfl, fun q => absurd q (by rw [hg0]; decide), fun t _ => rfl⟩
          · skip
            have hg1 : zv_gp P N y o p0 q0 p = true := by unfold zv_gp; rw [← hb0, ← hb, zb_1 h3, zb_1 h4, hz]; rfl
            have hL2 := hL hg1
            refine zr_go (t := (150, [some (.ref 0), some (.int (nI l)), some (.int (nI p)), some (.int (nI b.toNat)), some (.int 0)], [], (zw_M (upd (upd g 14 (nI L)) 25 (nI (P + 2 + (P + 1) * (P - 1)))) gl (va_up (va_up (va_up a 12 d12) 13 d13) 14 d14) al))) 2 rfl ?_
            refine zr_forget [some (.ref 0), some (.int (nI l)), some (.int (nI p)), none, some (.int 0)] ⟨Or.inr rfl, Or.inr rfl, Or.inr rfl, Or.inl rfl, Or.inr rfl, trivial⟩ ?_
            refine zr_loop (fun zq : Nat × (Nat → Int32) => (150, [some (.ref 0), some (.int (nI l)), some (.int (nI p)), none, some (.int (nI zq.1))], [], (zw_M (upd (upd g 14 (nI L)) 25 (nI (P + 2 + (P + 1) * (P - 1)))) gl (va_up (va_up (va_up (va_up a 7 zq.2) 12 d12) 13 d13) 14 d14) al))) (fun zq => zq.1 ≤ (P + 2 + (P + 1) * (P - 1)) ∧ (∀ s, s < 7 * L → zq.2 s = a 7 s) ∧ ∀ s, s < zq.1 → zq.2 (7 * L + s) = nI (zv_wf P N y (zv_lnf P N y p0 q0 P) p ((P + 1) * (P - 1)) s)) (fun zq => (P + 2 + (P + 1) * (P - 1)) - zq.1) ?_ (0, a 7) ⟨by omega, fun s _ => rfl, fun s h => absurd h (Nat.not_lt_zero s)⟩
            rintro ⟨k, fs⟩ ⟨hk5, hs1, hs2⟩ ih3
            try dsimp only at *
            refine zr_go (t := (156, [some (.ref 0), some (.int (nI l)), some (.int (nI p)), none, some (.int (nI k))], [.int (nI (P + 2 + (P + 1) * (P - 1))), .int (nI k)], (zw_M (upd (upd g 14 (nI L)) 25 (nI (P + 2 + (P + 1) * (P - 1)))) gl (va_up (va_up (va_up (va_up a 7 fs) 12 d12) 13 d13) 14 d14) al))) 3 rfl ?_
            refine zr_ige (x := nI k) (y := nI (P + 2 + (P + 1) * (P - 1))) k (P + 2 + (P + 1) * (P - 1)) rfl rfl (by omega) (by omega) (t := (187, [some (.ref 0), some (.int (nI l)), some (.int (nI p)), none, some (.int (nI k))], [], (zw_M (upd (upd g 14 (nI L)) 25 (nI (P + 2 + (P + 1) * (P - 1)))) gl (va_up (va_up (va_up (va_up a 7 fs) 12 d12) 13 d13) 14 d14) al))) (f := (159, [some (.ref 0), some (.int (nI l)), some (.int (nI p)), none, some (.int (nI k))], [], (zw_M (upd (upd g 14 (nI L)) 25 (nI (P + 2 + (P + 1) * (P - 1)))) gl (va_up (va_up (va_up (va_up a 7 fs) 12 d12) 13 d13) 14 d14) al))) rfl (fun h5 => ?_) (fun h5 => ?_)
            · skip
              refine zr_go (t := (197, [some (.ref 0), some (.int (nI l)), some (.int (nI p)), none, some (.int (nI k))], [], (zw_M (upd (upd g 14 ((nI L) + 1)) 25 (nI (P + 2 + (P + 1) * (P - 1)))) gl (va_up (va_up (va_up (va_up a 7 fs) 12 d12) 13 d13) 14 d14) al))) 6 rfl ?_
              rw [show (nI L) + 1 = nI (L + 1) from (zn_add rfl rfl)]
              exact zr_ret rfl trivial ⟨rfl, nI (P + 2 + (P + 1) * (P - 1)), fs, d12, d13, d14, by rw [hg1]; rfl, fun _ k hk => hs2 k (by omega), hs1⟩
            · skip
              refine zr_go (t := (179, [some (.ref 0), some (.int (nI l)), some (.int (nI p)), none, some (.int (nI k))], [.int (nI k), .ref 13, .int ((7 * (nI L)) + (nI k)), .ref 7], (zw_M (upd (upd g 14 (nI L)) 25 (nI (P + 2 + (P + 1) * (P - 1)))) gl (va_up (va_up (va_up (va_up a 7 fs) 12 d12) 13 d13) 14 d14) al))) 11 rfl ?_
              refine zr_cd (t := (180, [some (.ref 0), some (.int (nI l)), some (.int (nI p)), none, some (.int (nI k))], [.int (d13 (nI k).toNatClampNeg), .int ((7 * (nI L)) + (nI k)), .ref 7], (zw_M (upd (upd g 14 (nI L)) 25 (nI (P + 2 + (P + 1) * (P - 1)))) gl (va_up (va_up (va_up (va_up a 7 fs) 12 d12) 13 d13) 14 d14) al))) rfl (pk_in k 31 (by omega) rfl (by omega)) ?_
              rw [pk_cl (x := (nI k)) k rfl (by omega)]
              rw [show d13 k = nI (zv_wf P N y (zv_lnf P N y p0 q0 P) p ((P + 1) * (P - 1)) k) from hd13 k (by omega)]
              refine zr_cd (t := (181, [some (.ref 0), some (.int (nI l)), some (.int (nI p)), none, some (.int (nI k))], [], (zw_M (upd (upd g 14 (nI L)) 25 (nI (P + 2 + (P + 1) * (P - 1)))) gl (va_up (va_up (va_up (va_up a 7 (upd fs (((7 * (nI L)) + (nI k)).toNatClampNeg) (nI (zv_wf P N y (zv_lnf P N y p0 q0 P) p ((P + 1) * (P - 1)) k)))) 12 d12) 13 d13) 14 d14) al))) rfl (pk_in ((7 * L) + k) 280 (by omega) (zn_add (zn_mul rfl rfl) rfl) (by omega)) ?_
              rw [pk_cl (x := ((7 * (nI L)) + (nI k))) ((7 * L) + k) (zn_add (zn_mul rfl rfl) rfl) (by omega)]
              refine zr_go (t := (150, [some (.ref 0), some (.int (nI l)), some (.int (nI p)), none, some (.int ((nI k) + 1))], [], (zw_M (upd (upd g 14 (nI L)) 25 (nI (P + 2 + (P + 1) * (P - 1)))) gl (va_up (va_up (va_up (va_up a 7 (upd fs ((7 * L) + k) (nI (zv_wf P N y (zv_lnf P N y p0 q0 P) p ((P + 1) * (P - 1)) k)))) 12 d12) 13 d13) 14 d14) al))) 2 rfl ?_
              rw [show (nI k) + 1 = nI (k + 1) from (zn_add rfl rfl)]
              exact ih3 (k + 1, (upd fs ((7 * L) + k) (nI (zv_wf P N y (zv_lnf P N y p0 q0 P) p ((P + 1) * (P - 1)) k)))) ⟨by omega, fun s h => (pk_un (by omega)).trans (hs1 s h), fun s h => if e : s = k then by subst e; exact pk_us else (pk_un (by omega)).trans (hs2 s (by omega))⟩ (by omega)
      · skip
        refine zr_go (t := (95, [some (.ref 0), some (.int (nI l)), some (.int (nI p)), some (.int (nI b.toNat)), some (.int (nI k))], [.int (nI b.toNat)], (zw_M (upd (upd g 14 (nI L)) 25 (nI (P + 2 + (P + 1) * (P - 1)))) gl (va_up (va_up (va_up a 12 d12) 13 d13) 14 d14) al))) 1 rfl ?_
        have hb1 := zb_le b
        have hwk := hwt k h2
        refine zr_ieq (x := nI b.toNat) (y := 0) b.toNat 0 rfl rfl (by omega) (by omega) (t := (128, [some (.ref 0), some (.int (nI l)), some (.int (nI p)), some (.int (nI b.toNat)), some (.int (nI k))], [], (zw_M (upd (upd g 14 (nI L)) 25 (nI (P + 2 + (P + 1) * (P - 1)))) gl (va_up (va_up (va_up a 12 d12) 13 d13) 14 d14) al))) (f := (98, [some (.ref 0), some (.int (nI l)), some (.int (nI p)), some (.int (nI b.toNat)), some (.int (nI k))], [], (zw_M (upd (upd g 14 (nI L)) 25 (nI (P + 2 + (P + 1) * (P - 1)))) gl (va_up (va_up (va_up a 12 d12) 13 d13) 14 d14) al))) rfl (fun h3 => ?_) (fun h3 => ?_)
        · skip
          refine zr_go (t := (85, [some (.ref 0), some (.int (nI l)), some (.int (nI p)), some (.int 0), some (.int ((nI k) + 1))], [], (zw_M (upd (upd g 14 (nI L)) 25 (nI (P + 2 + (P + 1) * (P - 1)))) gl (va_up (va_up (va_up a 12 d12) 13 d13) 14 d14) al))) 4 rfl ?_
          rw [show some (Value.int 0) = some (Value.int (nI (false).toNat)) from rfl]
          rw [show (nI k) + 1 = nI (k + 1) from (zn_add rfl rfl)]
          exact ih (k + 1, false) ⟨by omega, by show false = (b0 && (zA _ k && _)); rw [← Bool.and_assoc, ← hb, zb_0 h3]; rfl⟩ (by omega)
        · skip
          refine zr_go (t := (104, [some (.ref 0), some (.int (nI l)), some (.int (nI p)), some (.int (nI b.toNat)), some (.int (nI k))], [.int (nI k), .ref 13], (zw_M (upd (upd g 14 (nI L)) 25 (nI (P + 2 + (P + 1) * (P - 1)))) gl (va_up (va_up (va_up a 12 d12) 13 d13) 14 d14) al))) 3 rfl ?_
          refine zr_cd (t := (105, [some (.ref 0), some (.int (nI l)), some (.int (nI p)), some (.int (nI b.toNat)), some (.int (nI k))], [.int (d13 (nI k).toNatClampNeg)], (zw_M (upd (upd g 14 (nI L)) 25 (nI (P + 2 + (P + 1) * (P - 1)))) gl (va_up (va_up (va_up a 12 d12) 13 d13) 14 d14) al))) rfl (pk_in k 31 (by omega) rfl (by omega)) ?_
          rw [pk_cl (x := (nI k)) k rfl (by omega)]
          rw [show d13 k = nI (zv_wf P N y (zv_lnf P N y p0 q0 P) p ((P + 1) * (P - 1)) k) from hd13 k (by omega)]
          refine zr_go (t := (106, [some (.ref 0), some (.int (nI l)), some (.int (nI p)), some (.int (nI b.toNat)), some (.int (nI k))], [.int (nI p), .int (nI (zv_wf P N y (zv_lnf P N y p0 q0 P) p ((P + 1) * (P - 1)) k))], (zw_M (upd (upd g 14 (nI L)) 25 (nI (P + 2 + (P + 1) * (P - 1)))) gl (va_up (va_up (va_up a 12 d12) 13 d13) 14 d14) al))) 1 rfl ?_
          refine zr_ige (x := nI (zv_wf P N y (zv_lnf P N y p0 q0 P) p ((P + 1) * (P - 1)) k)) (y := nI p) (zv_wf P N y (zv_lnf P N y p0 q0 P) p ((P + 1) * (P - 1)) k) p rfl rfl (by omega) (by omega) (t := (124, [some (.ref 0), some (.int (nI l)), some (.int (nI p)), some (.int (nI b.toNat)), some (.int (nI k))], [], (zw_M (upd (upd g 14 (nI L)) 25 (nI (P + 2 + (P + 1) * (P - 1)))) gl (va_up (va_up (va_up a 12 d12) 13 d13) 14 d14) al))) (f := (109, [some (.ref 0), some (.int (nI l)), some (.int (nI p)), some (.int (nI b.toNat)), some (.int (nI k))], [], (zw_M (upd (upd g 14 (nI L)) 25 (nI (P + 2 + (P + 1) * (P - 1)))) gl (va_up (va_up (va_up a 12 d12) 13 d13) 14 d14) al))) rfl (fun h4 => ?_) (fun h4 => ?_)
          · skip
            refine zr_go (t := (85, [some (.ref 0), some (.int (nI l)), some (.int (nI p)), some (.int 1), some (.int ((nI k) + 1))], [], (zw_M (upd (upd g 14 (nI L)) 25 (nI (P + 2 + (P + 1) * (P - 1)))) gl (va_up (va_up (va_up a 12 d12) 13 d13) 14 d14) al))) 5 rfl ?_
            rw [show some (Value.int 1) = some (Value.int (nI (true).toNat)) from rfl]
            rw [show (nI k) + 1 = nI (k + 1) from (zn_add rfl rfl)]
            exact ih (k + 1, true) ⟨by omega, by show true = (b0 && (zA _ k && _)); rw [← Bool.and_assoc, ← hb, zb_1 h3]; simp [h4]⟩ (by omega)
          · skip
            refine zr_go (t := (117, [some (.ref 0), some (.int (nI l)), some (.int (nI p)), some (.int (nI b.toNat)), some (.int (nI k))], [.int (nI k), .ref 13, .int (nI l), .ref 0], (zw_M (upd (upd g 14 (nI L)) 25 (nI (P + 2 + (P + 1) * (P - 1)))) gl (va_up (va_up (va_up a 12 d12) 13 d13) 14 d14) al))) 5 rfl ?_
            refine zr_cd (t := (118, [some (.ref 0), some (.int (nI l)), some (.int (nI p)), some (.int (nI b.toNat)), some (.int (nI k))], [.int (d13 (nI k).toNatClampNeg), .int (nI l), .ref 0], (zw_M (upd (upd g 14 (nI L)) 25 (nI (P + 2 + (P + 1) * (P - 1)))) gl (va_up (va_up (va_up a 12 d12) 13 d13) 14 d14) al))) rfl (pk_in k 31 (by omega) rfl (by omega)) ?_
            rw [pk_cl (x := (nI k)) k rfl (by omega)]
            rw [show d13 k = nI (zv_wf P N y (zv_lnf P N y p0 q0 P) p ((P + 1) * (P - 1)) k) from hd13 k (by omega)]
            refine zr_call (t := (121, [some (.ref 0), some (.int (nI l)), some (.int (nI p)), some (.int (nI b.toNat)), some (.int (nI k))], [], (zw_M (upd (upd g 14 (nI L)) 25 (nI (P + 2 + (P + 1) * (P - 1)))) gl (va_up (va_up (va_up a 12 d12) 13 d13) 14 d14) al))) rfl (Nat.le_of_ble_eq_true rfl : 1 ≤ 4) (zs_M_isOfLine (upd (upd g 14 (nI L)) 25 (nI (P + 2 + (P + 1) * (P - 1)))) gl (va_up (va_up (va_up a 12 d12) 13 d13) 14 d14) al P hP hP5 l (zv_wf P N y (zv_lnf P N y p0 q0 P) p ((P + 1) * (P - 1)) k) hl128 (by omega) (zv_lnf P N y p0 q0 P) hl (fun t ht => Nat.lt_of_lt_of_le (hlt t ht) (by omega))) ?_
            rintro _ _ ⟨rfl, rfl⟩
            show zm_Run zt_get 4 zt_M_layPlane (121, [some (.ref 0), some (.int (nI l)), some (.int (nI p)), some (.int (nI b.toNat)), some (.int (nI k))], [.int (nI ((zE (fun t => zv_lnf P N y p0 q0 P t == zv_wf P N y (zv_lnf P N y p0 q0 P) p ((P + 1) * (P - 1)) k) (P + 1)).toNat))], (zw_M (upd (upd g 14 (nI L)) 25 (nI (P + 2 + (P + 1) * (P - 1)))) gl (va_up (va_up (va_up a 12 d12) 13 d13) 14 d14) al)) _
            have hz2 := zb_le (zE (fun t => zv_lnf P N y p0 q0 P t == zv_wf P N y (zv_lnf P N y p0 q0 P) p ((P + 1) * (P - 1)) k) (P + 1))
            refine zr_ieq (x := nI ((zE (fun t => zv_lnf P N y p0 q0 P t == zv_wf P N y (zv_lnf P N y p0 q0 P) p ((P + 1) * (P - 1)) k) (P + 1)).toNat)) (y := 0) ((zE (fun t => zv_lnf P N y p0 q0 P t == zv_wf P N y (zv_lnf P N y p0 q0 P) p ((P + 1) * (P - 1)) k) (P + 1)).toNat) 0 rfl rfl (by omega) (by omega) (t := (128, [some (.ref 0), some (.int (nI l)), some (.int (nI p)), some (.int (nI b.toNat)), some (.int (nI k))], [], (zw_M (upd (upd g 14 (nI L)) 25 (nI (P + 2 + (P + 1) * (P - 1)))) gl (va_up (va_up (va_up a 12 d12) 13 d13) 14 d14) al))) (f := (124, [some (.ref 0), some (.int (nI l)), some (.int (nI p)), some (.int (nI b.toNat)), some (.int (nI k))], [], (zw_M (upd (upd g 14 (nI L)) 25 (nI (P + 2 + (P + 1) * (P - 1)))) gl (va_up (va_up (va_up a 12 d12) 13 d13) 14 d14) al))) rfl (fun h5 => ?_) (fun h5 => ?_)
            · skip
              refine zr_go (t := (85, [some (.ref 0), some (.int (nI l)), some (.int (nI p)), some (.int 0), some (.int ((nI k) + 1))], [], (zw_M (upd (upd g 14 (nI L)) 25 (nI (P + 2 + (P + 1) * (P - 1)))) gl (va_up (va_up (va_up a 12 d12) 13 d13) 14 d14) al))) 4 rfl ?_
              rw [show some (Value.int 0) = some (Value.int (nI (false).toNat)) from rfl]
              rw [show (nI k) + 1 = nI (k + 1) from (zn_add rfl rfl)]
              exact ih (k + 1, false) ⟨by omega, by show false = (b0 && (zA _ k && _)); rw [← Bool.and_assoc, ← hb, zb_1 h3]; dsimp only; rw [zb_0 h5, decide_eq_false (by omega)]; rfl⟩ (by omega)
            · skip
              refine zr_go (t := (85, [some (.ref 0), some (.int (nI l)), some (.int (nI p)), some (.int 1), some (.int ((nI k) + 1))], [], (zw_M (upd (upd g 14 (nI L)) 25 (nI (P + 2 + (P + 1) * (P - 1)))) gl (va_up (va_up (va_up a 12 d12) 13 d13) 14 d14) al))) 5 rfl ?_
              rw [show some (Value.int 1) = some (Value.int (nI (true).toNat)) from rfl]
              rw [show (nI k) + 1 = nI (k + 1) from (zn_add rfl rfl)]
              exact ih (k + 1, true) ⟨by omega, by show true = (b0 && (zA _ k && _)); rw [← Bool.and_assoc, ← hb, zb_1 h3]; dsimp only; rw [zb_1 h5, decide_eq_false (by omega)]; rfl⟩ (by omega)
    refine zr_go (t := (43, [some (.ref 0), some (.int (nI l)), some (.int (nI p)), none, none], [.int 0, .ref 13], (zw_M (upd (upd g 14 (nI L)) 25 (nI (P + 2 + (P + 1) * (P - 1)))) gl (va_up (va_up (va_up a 12 d12) 13 d13) 14 d14) al))) 3 rfl ?_
    refine zr_cd (t := (44, [some (.ref 0), some (.int (nI l)), some (.int (nI p)), none, none], [.int (d13 (0 : Int32).toNatClampNeg)], (zw_M (upd (upd g 14 (nI L)) 25 (nI (P + 2 + (P + 1) * (P - 1)))) gl (va_up (va_up (va_up a 12 d12) 13 d13) 14 d14) al))) rfl (pk_in 0 31 (by omega) rfl (by omega)) ?_
    rw [pk_cl (x := (0 : Int32)) 0 rfl (by omega)]
    rw [show d13 0 = nI (zv_wf P N y (zv_lnf P N y p0 q0 P) p ((P + 1) * (P - 1)) 0) from hd13 0 (by omega)]
    refine zr_go (t := (52, [some (.ref 0), some (.int (nI l)), some (.int (nI p)), none, none], [.int (6 * (nI l)), .ref 6, .int (nI (zv_wf P N y (zv_lnf P N y p0 q0 P) p ((P + 1) * (P - 1)) 0))], (zw_M (upd (upd g 14 (nI L)) 25 (nI (P + 2 + (P + 1) * (P - 1)))) gl (va_up (va_up (va_up a 12 d12) 13 d13) 14 d14) al))) 5 rfl ?_
    refine zr_cd (t := (53, [some (.ref 0), some (.int (nI l)), some (.int (nI p)), none, none], [.int ((a 6) (6 * (nI l)).toNatClampNeg), .int (nI (zv_wf P N y (zv_lnf P N y p0 q0 P) p ((P + 1) * (P - 1)) 0))], (zw_M (upd (upd g 14 (nI L)) 25 (nI (P + 2 + (P + 1) * (P - 1)))) gl (va_up (va_up (va_up a 12 d12) 13 d13) 14 d14) al))) rfl (pk_in (6 * l) 768 (by omega) (zn_mul rfl rfl) (by omega)) ?_
    rw [pk_cl (x := (6 * (nI l))) (6 * l) (zn_mul rfl rfl) (by omega)]
    rw [show (a 6) (6 * l) = nI p0 from (hl 0 (by omega)).trans (congrArg nI hl0)]
    refine zr_ine (x := nI (zv_wf P N y (zv_lnf P N y p0 q0 P) p ((P + 1) * (P - 1)) 0)) (y := nI p0) (zv_wf P N y (zv_lnf P N y p0 q0 P) p ((P + 1) * (P - 1)) 0) p0 rfl rfl (by omega) (by omega) (t := (80, [some (.ref 0), some (.int (nI l)), some (.int (nI p)), none, none], [], (zw_M (upd (upd g 14 (nI L)) 25 (nI (P + 2 + (P + 1) * (P - 1)))) gl (va_up (va_up (va_up a 12 d12) 13 d13) 14 d14) al))) (f := (56, [some (.ref 0), some (.int (nI l)), some (.int (nI p)), none, none], [], (zw_M (upd (upd g 14 (nI L)) 25 (nI (P + 2 + (P + 1) * (P - 1)))) gl (va_up (va_up (va_up a 12 d12) 13 d13) 14 d14) al))) rfl (fun h2 => ?_) (fun h2 => ?_)
    · skip
      refine zr_go (t := (82, [some (.ref 0), some (.int (nI l)), some (.int (nI p)), some (.int 0), none], [], (zw_M (upd (upd g 14 (nI L)) 25 (nI (P + 2 + (P + 1) * (P - 1)))) gl (va_up (va_up (va_up a 12 d12) 13 d13) 14 d14) al))) 2 rfl ?_
      exact tail false (by simp [h2])
    · skip
      refine zr_go (t := (61, [some (.ref 0), some (.int (nI l)), some (.int (nI p)), none, none], [.int 1, .ref 13], (zw_M (upd (upd g 14 (nI L)) 25 (nI (P + 2 + (P + 1) * (P - 1)))) gl (va_up (va_up (va_up a 12 d12) 13 d13) 14 d14) al))) 3 rfl ?_
      refine zr_cd (t := (62, [some (.ref 0), some (.int (nI l)), some (.int (nI p)), none, none], [.int (d13 (1 : Int32).toNatClampNeg)], (zw_M (upd (upd g 14 (nI L)) 25 (nI (P + 2 + (P + 1) * (P - 1)))) gl (va_up (va_up (va_up a 12 d12) 13 d13) 14 d14) al))) rfl (pk_in 1 31 (by omega) rfl (by omega)) ?_
      rw [pk_cl (x := (1 : Int32)) 1 rfl (by omega)]
      rw [show d13 1 = nI (zv_wf P N y (zv_lnf P N y p0 q0 P) p ((P + 1) * (P - 1)) 1) from hd13 1 (by omega)]
      refine zr_go (t := (72, [some (.ref 0), some (.int (nI l)), some (.int (nI p)), none, none], [.int ((6 * (nI l)) + 1), .ref 6, .int (nI (zv_wf P N y (zv_lnf P N y p0 q0 P) p ((P + 1) * (P - 1)) 1))], (zw_M (upd (upd g 14 (nI L)) 25 (nI (P + 2 + (P + 1) * (P - 1)))) gl (va_up (va_up (va_up a 12 d12) 13 d13) 14 d14) al))) 7 rfl ?_
      refine zr_cd (t := (73, [some (.ref 0), some (.int (nI l)), some (.int (nI p)), none, none], [.int ((a 6) ((6 * (nI l)) + 1).toNatClampNeg), .int (nI (zv_wf P N y (zv_lnf P N y p0 q0 P) p ((P + 1) * (P - 1)) 1))], (zw_M (upd (upd g 14 (nI L)) 25 (nI (P + 2 + (P + 1) * (P - 1)))) gl (va_up (va_up (va_up a 12 d12) 13 d13) 14 d14) al))) rfl (pk_in ((6 * l) + 1) 768 (by omega) (zn_add (zn_mul rfl rfl) rfl) (by omega)) ?_
      rw [pk_cl (x := ((6 * (nI l)) + 1)) ((6 * l) + 1) (zn_add (zn_mul rfl rfl) rfl) (by omega)]
      rw [show (a 6) ((6 * l) + 1) = nI q0 from (hl 1 (by omega)).trans (congrArg nI hl1)]
      refine zr_ine (x := nI (zv_wf P N y (zv_lnf P N y p0 q0 P) p ((P + 1) * (P - 1)) 1)) (y := nI q0) (zv_wf P N y (zv_lnf P N y p0 q0 P) p ((P + 1) * (P - 1)) 1) q0 rfl rfl (by omega) (by omega) (t := (80, [some (.ref 0), some (.int (nI l)), some (.int (nI p)), none, none], [], (zw_M (upd (upd g 14 (nI L)) 25 (nI (P + 2 + (P + 1) * (P - 1)))) gl (va_up (va_up (va_up a 12 d12) 13 d13) 14 d14) al))) (f := (76, [some (.ref 0), some (.int (nI l)), some (.int (nI p)), none, none], [], (zw_M (upd (upd g 14 (nI L)) 25 (nI (P + 2 + (P + 1) * (P - 1)))) gl (va_up (va_up (va_up a 12 d12) 13 d13) 14 d14) al))) rfl (fun h3 => ?_) (fun h3 => ?_)
      · skip
        refine zr_go (t := (82, [some (.ref 0), some (.int (nI l)), some (.int (nI p)), some (.int 0), none], [], (zw_M (upd (upd g 14 (nI L)) 25 (nI (P + 2 + (P + 1) * (P - 1)))) gl (va_up (va_up (va_up a 12 d12) 13 d13) 14 d14) al))) 2 rfl ?_
        exact tail false (by simp [h3])
      · skip
        refine zr_go (t := (82, [some (.ref 0), some (.int (nI l)), some (.int (nI p)), some (.int 1), none], [], (zw_M (upd (upd g 14 (nI L)) 25 (nI (P + 2 + (P + 1) * (P - 1)))) gl (va_up (va_up (va_up a 12 d12) 13 d13) 14 d14) al))) 3 rfl ?_
        exact tail true (by simp [h2, h3])
  · skip
    have hg0 : zv_gp P N y o p0 q0 p = false := by unfold zv_gp; rw [zb_1 h1]; rfl
    exact zr_ret rfl trivial ⟨rfl, nI (P + 1), a 7, e12, h, a 14, by rw [hg0]; rfl, fun q => absurd q (by rw [hg0]; decide), fun t _ => rfl⟩
end
section
/-! the reference: what follows from a form (written by wip/whole/gen_m9.py) -/
theorem zv_nn7 {P : Nat} (hPP : P = 2 ∨ P = 3 ∨ P = 5) : 7 ≤ P + 2 + (P + 1) * (P - 1) := by rcases hPP with rfl | rfl | rfl <;> decide
/-- a point of a number and a line of a number: a plane -/
def zv_gq (P N np : Nat) (y : Nat → Nat → Nat) (o : Nat → Bool) (p0 q0 : Nat → Nat) (s : Nat) : Bool := o (s % np) && zv_gp P N y o (p0 (s / np)) (q0 (s / np)) (s % np)
/-- the number of the one that has l such before it -/
def zX (f : Nat → Bool) (n l : Nat) : Nat := zM (fun t => f t && zC f t == l) 0 n
theorem zM_is {f : Nat → Bool} {t : Nat} (ht : f t = true) : ∀ n k, k ≤ t → t < k + n → (∀ s, k ≤ s → s < t → f s = false) → zM f k n = t := by
  intro n
  induction n with
  | zero => intro k h1 h2; omega
  | succ n ih =>
    intro k h1 h2 h3
    unfold zM
    by_cases e : k = t
    · subst e; rw [if_pos ht]
    · rw [if_neg (by rw [h3 k (Nat.le_refl _) (by omega)]; decide)]
      exact ih (k + 1) (by omega) (by omega) (fun s h4 h5 => h3 s (by omega) h5)
theorem zX_at {f : Nat → Bool} {n t : Nat} (ht : f t = true) (hn : t < n) : zX f n (zC f t) = t := by
  refine zM_is (by simp [ht]) n 0 (Nat.zero_le _) (by omega) (fun s _ hs => ?_)
  cases hf : f s with
  | false => rfl
  | true =>
    have := zC_lt hf hs
    have h2 : ¬ zC f s = zC f t := by omega
    simp [h2]
theorem zC_ex {f : Nat → Bool} {n l : Nat} (h : l < zC f n) : ∃ t, t < n ∧ f t = true ∧ zC f t = l := by
  induction n with
  | zero => exact absurd h (Nat.not_lt_zero _)
  | succ n ih =>
    have h1 : l < zC f n + (f n).toNat := h
    by_cases e : l < zC f n
    · obtain ⟨t, a1, a2, a3⟩ := ih e
      exact ⟨t, by omega, a2, a3⟩
    · cases hf : f n with
      | false => rw [hf] at h1; exact absurd h1 e
      | true => rw [hf] at h1; exact ⟨n, Nat.lt_succ_self _, hf, by have : (true).toNat = 1 := rfl; omega⟩
theorem zX_ok {f : Nat → Bool} {n l : Nat} (h : l < zC f n) : zX f n l < n ∧ f (zX f n l) = true ∧ zC f (zX f n l) = l := by
  obtain ⟨t, a1, a2, a3⟩ := zC_ex h
  have e : zX f n l = t := by rw [← a3]; exact zX_at a2 a1
  rw [e]; exact ⟨a1, a2, a3⟩
theorem zs_M_layPlanes (g : Nat → Int32) (gl : Nat → Int64) (a : Nat → Nat → Int32) (al : Nat → Nat → Int64) (P N : Nat) (hP : g 0 = nI P) (hN : g 1 = nI N) (hPP : P = 2 ∨ P = 3 ∨ P = 5) (hN6 : N ≤ 6) (hA : P ^ N ≤ 729) (hnum : ∀ t, 1 ≤ t → t < P ^ N → a 4 t = if zv_l1 P N t then nI (zv_cnt P N t) else -1) (np : Nat) (y : Nat → Nat → Nat) (hR : zc_R g a np y) (o : Nat → Bool) (hO : zc_O a np o) (hv : ∀ p q b, p < np → q < np → p ≠ q → b < P → zv_vec P N (zv_mx P b 1 (y p) (y q)) ∧ zv_pt P N (zv_mx P b 1 (y p) (y q)) < np) (Ln : Nat) (hLn : g 12 = nI Ln) (hLn1 : Ln ≤ 128) (hnp0 : 0 < np) (p0 q0 : Nat → Nat) (hl : ∀ l, l < Ln → (∀ k, k < P + 1 → a 6 (6 * l + k) = nI (zv_lnf P N y (p0 l) (q0 l) P k)) ∧ zv_lnf P N y (p0 l) (q0 l) P 0 = p0 l ∧ zv_lnf P N y (p0 l) (q0 l) P 1 = q0 l ∧ p0 l < np ∧ q0 l < np ∧ p0 l ≠ q0 l) (hPB : zC (zv_gq P N np y o p0 q0) (np * Ln) ≤ 30) : zm_Ev zt_get 6 138 [.ref 0] (zw_M g gl a al) (fun v w => v = none ∧ ∃ x25 fp f12 f13 f14, w = (zw_M (upd (upd g 14 (nI (zC (zv_gq P N np y o p0 q0) (np * Ln)))) 25 x25) gl (va_up (va_up (va_up (va_up a 7 fp) 12 f12) 13 f13) 14 f14) al) ∧ ∀ s, s < np * Ln → (zv_gq P N np y o p0 q0) s = true → ∀ k, k < 7 → fp (7 * zC (zv_gq P N np y o p0 q0) s + k) = nI (zv_wf P N y (zv_lnf P N y (p0 (s / np)) (q0 (s / np)) P) (s % np) ((P + 1) * (P - 1)) k)) := by
  obtain ⟨hP0, hP5⟩ := zv_P5 hPP
  obtain ⟨hnp, hnp1, hy, hy4⟩ := id hR
  obtain ⟨hn31, hn2⟩ := zv_nn hPP
  refine zr_ev zt_M_layPlanes rfl rfl ?_
  show zm_Run zt_get 5 zt_M_layPlanes (0, [some (.ref 0), none, none], [], (zw_M g gl a al)) _
  refine zr_go (t := (7, [some (.ref 0), some (.int 0), none], [], (zw_M (upd g 14 0) gl a al))) 5 rfl ?_
  refine zr_loop (fun zq : Nat × Nat × Int32 × (Nat → Int32) × (Nat → Int32) × (Nat → Int32) × (Nat → Int32) => (7, [some (.ref 0), some (.int (nI zq.1)), none], [], (zw_M (upd (upd g 14 (nI zq.2.1)) 25 zq.2.2.1) gl (va_up (va_up (va_up (va_up a 7 zq.2.2.2.1) 12 zq.2.2.2.2.1) 13 zq.2.2.2.2.2.1) 14 zq.2.2.2.2.2.2) al))) (fun zq => zq.1 ≤ Ln ∧ zq.2.1 = zC (zv_gq P N np y o p0 q0) (np * zq.1) ∧ ∀ s, s < np * zq.1 → (zv_gq P N np y o p0 q0) s = true → ∀ k, k < 7 → zq.2.2.2.1 (7 * zC (zv_gq P N np y o p0 q0) s + k) = nI (zv_wf P N y (zv_lnf P N y (p0 (s / np)) (q0 (s / np)) P) (s % np) ((P + 1) * (P - 1)) k)) (fun zq => Ln - zq.1) ?_ (0, 0, g 25, a 7, a 12, a 13, a 14) ⟨by omega, rfl, fun s h => absurd h (Nat.not_lt_zero s)⟩
  rintro ⟨l, L, x25, fp, f12, f13, f14⟩ ⟨hl1, hL, hfp⟩ ih
  try dsimp only at *
  refine zr_go (t := (12, [some (.ref 0), some (.int (nI l)), none], [.int (g 12), .int (nI l)], (zw_M (upd (upd g 14 (nI L)) 25 x25) gl (va_up (va_up (va_up (va_up a 7 fp) 12 f12) 13 f13) 14 f14) al))) 3 rfl ?_
  refine zr_ige (x := nI l) (y := g 12) l Ln rfl hLn (by omega) (by omega) (t := (52, [some (.ref 0), some (.int (nI l)), none], [], (zw_M (upd (upd g 14 (nI L)) 25 x25) gl (va_up (va_up (va_up (va_up a 7 fp) 12 f12) 13 f13) 14 f14) al))) (f := (15, [some (.ref 0), some (.int (nI l)), none], [], (zw_M (upd (upd g 14 (nI L)) 25 x25) gl (va_up (va_up (va_up (va_up a 7 fp) 12 f12) 13 f13) 14 f14) al))) rfl (fun h1 => ?_) (fun h1 => ?_)
  · skip
    have e1 : Ln = l := by omega
    subst e1
    subst hL
    exact zr_ret rfl trivial ⟨rfl, x25, fp, f12, f13, f14, rfl, hfp⟩
  · skip
    obtain ⟨c1, c2, c3, c4, c5, c6⟩ := hl l h1
    have hml : np * l + np ≤ np * Ln := by have := Nat.mul_le_mul_left np (show l + 1 ≤ Ln by omega); rw [Nat.mul_add, Nat.mul_one] at this; exact this
    refine zr_go (t := (17, [some (.ref 0), some (.int (nI l)), some (.int 0)], [], (zw_M (upd (upd g 14 (nI L)) 25 x25) gl (va_up (va_up (va_up (va_up a 7 fp) 12 f12) 13 f13) 14 f14) al))) 2 rfl ?_
    refine zr_loop (fun zq : Nat × Nat × Int32 × (Nat → Int32) × (Nat → Int32) × (Nat → Int32) × (Nat → Int32) => (17, [some (.ref 0), some (.int (nI l)), some (.int (nI zq.1))], [], (zw_M (upd (upd g 14 (nI zq.2.1)) 25 zq.2.2.1) gl (va_up (va_up (va_up (va_up a 7 zq.2.2.2.1) 12 zq.2.2.2.2.1) 13 zq.2.2.2.2.2.1) 14 zq.2.2.2.2.2.2) al))) (fun zq => zq.1 ≤ np ∧ zq.2.1 = zC (zv_gq P N np y o p0 q0) (np * l + zq.1) ∧ ∀ s, s < np * l + zq.1 → (zv_gq P N np y o p0 q0) s = true → ∀ k, k < 7 → zq.2.2.2.1 (7 * zC (zv_gq P N np y o p0 q0) s + k) = nI (zv_wf P N y (zv_lnf P N y (p0 (s / np)) (q0 (s / np)) P) (s % np) ((P + 1) * (P - 1)) k)) (fun zq => np - zq.1) ?_ (0, L, x25, fp, f12, f13, f14) ⟨by omega, hL, hfp⟩
    rintro ⟨p, L2, z25, ep, e12, e13, e14⟩ ⟨hp, hL2, hep⟩ ih2
    try dsimp only at *
    refine zr_go (t := (22, [some (.ref 0), some (.int (nI l)), some (.int (nI p))], [.int (g 6), .int (nI p)], (zw_M (upd (upd g 14 (nI L2)) 25 z25) gl (va_up (va_up (va_up (va_up a 7 ep) 12 e12) 13 e13) 14 e14) al))) 3 rfl ?_
    refine zr_ige (x := nI p) (y := g 6) p np rfl hnp (by omega) (by omega) (t := (46, [some (.ref 0), some (.int (nI l)), some (.int (nI p))], [], (zw_M (upd (upd g 14 (nI L2)) 25 z25) gl (va_up (va_up (va_up (va_up a 7 ep) 12 e12) 13 e13) 14 e14) al))) (f := (25, [some (.ref 0), some (.int (nI l)), some (.int (nI p))], [], (zw_M (upd (upd g 14 (nI L2)) 25 z25) gl (va_up (va_up (va_up (va_up a 7 ep) 12 e12) 13 e13) 14 e14) al))) rfl (fun h2 => ?_) (fun h2 => ?_)
    · skip
      have e1 : np = p := by omega
      subst e1
      refine zr_go (t := (7, [some (.ref 0), some (.int ((nI l) + 1)), some (.int (nI np))], [], (zw_M (upd (upd g 14 (nI L2)) 25 z25) gl (va_up (va_up (va_up (va_up a 7 ep) 12 e12) 13 e13) 14 e14) al))) 2 rfl ?_
      rw [show (nI l) + 1 = nI (l + 1) from (zn_add rfl rfl)]
      refine zr_forget [some (.ref 0), some (.int (nI (l + 1))), none] ⟨Or.inr rfl, Or.inr rfl, Or.inl rfl, trivial⟩ ?_
      exact ih (l + 1, L2, z25, ep, e12, e13, e14) ⟨by omega, hL2, hep⟩ (by omega)
    · skip
      obtain ⟨d1, d2⟩ := zv_dm (k := l) h2
      have hgq : (zv_gq P N np y o p0 q0) (np * l + p) = (o p && zv_gp P N y o (p0 l) (q0 l) p) := by unfold zv_gq; rw [d1, d2]
      have hC1 : zC (zv_gq P N np y o p0 q0) (np * l + (p + 1)) = L2 + ((zv_gq P N np y o p0 q0) (np * l + p)).toNat := by rw [hL2]; rfl
      have hC2 : L2 + ((zv_gq P N np y o p0 q0) (np * l + p)).toNat ≤ 30 := by rw [← hC1]; exact Nat.le_trans (zC_mono _ (by omega)) hPB
      refine zr_go (t := (30, [some (.ref 0), some (.int (nI l)), some (.int (nI p))], [.int (nI p), .ref 5], (zw_M (upd (upd g 14 (nI L2)) 25 z25) gl (va_up (va_up (va_up (va_up a 7 ep) 12 e12) 13 e13) 14 e14) al))) 3 rfl ?_
      refine zr_cd (t := (31, [some (.ref 0), some (.int (nI l)), some (.int (nI p))], [.int ((a 5) (nI p).toNatClampNeg)], (zw_M (upd (upd g 14 (nI L2)) 25 z25) gl (va_up (va_up (va_up (va_up a 7 ep) 12 e12) 13 e13) 14 e14) al))) rfl (pk_in p 156 (by omega) rfl (by omega)) ?_
      rw [pk_cl (x := (nI p)) p rfl (by omega)]
      rw [show (a 5) p = nI ((o p).toNat) from hO p (by omega)]
      have ho1 := zb_le (o p)
      refine zr_ieq (x := nI ((o p).toNat)) (y := 0) ((o p).toNat) 0 rfl rfl (by omega) (by omega) (t := (40, [some (.ref 0), some (.int (nI l)), some (.int (nI p))], [], (zw_M (upd (upd g 14 (nI L2)) 25 z25) gl (va_up (va_up (va_up (va_up a 7 ep) 12 e12) 13 e13) 14 e14) al))) (f := (34, [some (.ref 0), some (.int (nI l)), some (.int (nI p))], [], (zw_M (upd (upd g 14 (nI L2)) 25 z25) gl (va_up (va_up (va_up (va_up a 7 ep) 12 e12) 13 e13) 14 e14) al))) rfl (fun h3 => ?_) (fun h3 => ?_)
      · skip
        rw [zb_0 h3, Bool.false_and] at hgq
        refine zr_go (t := (17, [some (.ref 0), some (.int (nI l)), some (.int ((nI p) + 1))], [], (zw_M (upd (upd g 14 (nI L2)) 25 z25) gl (va_up (va_up (va_up (va_up a 7 ep) 12 e12) 13 e13) 14 e14) al))) 2 rfl ?_
        rw [show (nI p) + 1 = nI (p + 1) from (zn_add rfl rfl)]
        exact ih2 (p + 1, L2, z25, ep, e12, e13, e14) ⟨by omega, by rw [hgq] at hC1; exact hC1.symm, fun s (hs : s < np * l + (p + 1)) h7 => hep s (by have : s ≠ np * l + p := (fun q => by rw [q, hgq] at h7; cases h7); omega) h7⟩ (by omega)
      · skip
        rw [zb_1 h3, Bool.true_and] at hgq
        rw [hgq] at hC1 hC2
        refine zr_go (t := (37, [some (.ref 0), some (.int (nI l)), some (.int (nI p))], [.int (nI p), .int (nI l), .ref 0], (zw_M (upd (upd g 14 (nI L2)) 25 z25) gl (va_up (va_up (va_up (va_up a 7 ep) 12 e12) 13 e13) 14 e14) al))) 3 rfl ?_
        refine zr_call (t := (40, [some (.ref 0), some (.int (nI l)), some (.int (nI p))], [], (zw_M (upd (upd g 14 (nI L2)) 25 z25) gl (va_up (va_up (va_up (va_up a 7 ep) 12 e12) 13 e13) 14 e14) al))) rfl (Nat.le_of_ble_eq_true rfl : 5 ≤ 5) (zs_M_layPlane (upd g 25 z25) gl (va_up (va_up (va_up (va_up a 7 ep) 12 e12) 13 e13) 14 e14) al P N hP hN hPP hN6 hA hnum np y hR o hO hv L2 l (p0 l) (q0 l) p (fun q => by rw [q] at hC2; exact hC2) (by omega) c1 (by omega) c2 c3 c4 c5 c6 (by omega)) ?_
        rintro _ _ ⟨rfl, w25, d7, d12, d13, d14, rfl, hd7, hd8⟩
        show zm_Run zt_get 5 zt_M_layPlanes (40, [some (.ref 0), some (.int (nI l)), some (.int (nI p))], [], (zw_M (upd (upd g 14 (nI (L2 + (zv_gp P N y o (p0 l) (q0 l) p).toNat))) 25 w25) gl (va_up (va_up (va_up (va_up a 7 d7) 12 d12) 13 d13) 14 d14) al)) _
        refine zr_go (t := (17, [some (.ref 0), some (.int (nI l)), some (.int ((nI p) + 1))], [], (zw_M (upd (upd g 14 (nI (L2 + (zv_gp P N y o (p0 l) (q0 l) p).toNat))) 25 w25) gl (va_up (va_up (va_up (va_up a 7 d7) 12 d12) 13 d13) 14 d14) al))) 2 rfl ?_
        rw [show (nI p) + 1 = nI (p + 1) from (zn_add rfl rfl)]
        exact ih2 (p + 1, L2 + (zv_gp P N y o (p0 l) (q0 l) p).toNat, w25, d7, d12, d13, d14) ⟨by omega, hC1.symm, fun s (hs : s < np * l + (p + 1)) h7 k hk => if e : s = np * l + p then by subst e; rw [← hL2, d1, d2]; exact hd7 (hgq ▸ h7) k (Nat.lt_of_lt_of_le hk (zv_nn7 hPP)) else (hd8 _ (by have h10 : zC (zv_gq P N np y o p0 q0) s + 1 ≤ zC (zv_gq P N np y o p0 q0) (np * l + p) := zC_lt h7 (by omega); omega)).trans (hep s (by omega) h7 k hk)⟩ (by omega)
/-- the points on the quadric; the first two points of a line by its number -/
def zv_oo (P N : Nat) (c : Nat → Nat) (y : Nat → Nat → Nat) (k : Nat) : Bool := zv_val P N c (y k) == 0
def zv_lp0 (P N : Nat) (c : Nat → Nat) (np : Nat) (y : Nat → Nat → Nat) (l : Nat) : Nat := zX (zv_gl P N np y (zv_oo P N c y)) (np * np) l / np
def zv_lq0 (P N : Nat) (c : Nat → Nat) (np : Nat) (y : Nat → Nat → Nat) (l : Nat) : Nat := zX (zv_gl P N np y (zv_oo P N c y)) (np * np) l % np
/-- how many lines, how many planes -/
def zv_nl (P N : Nat) (c : Nat → Nat) (np : Nat) (y : Nat → Nat → Nat) : Nat := zC (zv_gl P N np y (zv_oo P N c y)) (np * np)
def zv_npl (P N : Nat) (c : Nat → Nat) (np : Nat) (y : Nat → Nat → Nat) : Nat := zC (zv_gq P N np y (zv_oo P N c y) (zv_lp0 P N c np y) (zv_lq0 P N c np y)) (np * zv_nl P N c np y)
def zv_ns (P N : Nat) (c : Nat → Nat) (np : Nat) (y : Nat → Nat → Nat) : Nat := zC (zv_isS P N c np y (zv_oo P N c y)) np
/-- the l-th line's points; the l-th plane's -/
def zv_line (P N : Nat) (c : Nat → Nat) (np : Nat) (y : Nat → Nat → Nat) (l : Nat) : Nat → Nat := zv_lnf P N y (zv_lp0 P N c np y l) (zv_lq0 P N c np y l) P
def zv_plane (P N : Nat) (c : Nat → Nat) (np : Nat) (y : Nat → Nat → Nat) (l : Nat) : Nat → Nat :=
  let s := zX (zv_gq P N np y (zv_oo P N c y) (zv_lp0 P N c np y) (zv_lq0 P N c np y)) (np * zv_nl P N c np y) l
  zv_wf P N y (zv_line P N c np y (s / np)) (s % np) ((P + 1) * (P - 1))
theorem zv_line_ok {P N np : Nat} {c : Nat → Nat} {y : Nat → Nat → Nat} (hnp0 : 0 < np) {l : Nat} (h : l < zv_nl P N c np y) : zv_line P N c np y l 0 = zv_lp0 P N c np y l ∧ zv_line P N c np y l 1 = zv_lq0 P N c np y l ∧ zv_lp0 P N c np y l < np ∧ zv_lq0 P N c np y l < np ∧ zv_lp0 P N c np y l ≠ zv_lq0 P N c np y l ∧ ∀ k, k < P + 1 → zv_oo P N c y (zv_line P N c np y l k) = true := by
  obtain ⟨h1, h2, -⟩ := zX_ok h
  have h3 : zv_gl P N np y (zv_oo P N c y) (zX (zv_gl P N np y (zv_oo P N c y)) (np * np) l) = true := h2
  unfold zv_gl at h3
  simp only [Bool.and_eq_true, decide_eq_true_eq, beq_iff_eq] at h3
  exact ⟨h3.2.2.2.1, h3.2.2.2.2.1, Nat.div_lt_of_lt_mul h1, Nat.mod_lt _ hnp0, Nat.ne_of_lt h3.1, zA_iff.mp h3.2.2.2.2.2⟩
theorem zs_M_layForm (g : Nat → Int32) (gl : Nat → Int64) (a : Nat → Nat → Int32) (al : Nat → Nat → Int64) (P N : Nat) (c : Nat → Nat) (hF : zc_F g a P N c) (hPP : P = 2 ∨ P = 3 ∨ P = 5) (hA : P ^ N ≤ 729) (hnum : ∀ t, 1 ≤ t → t < P ^ N → a 4 t = if zv_l1 P N t then nI (zv_cnt P N t) else -1) (np : Nat) (y : Nat → Nat → Nat) (hR : zc_R g a np y) (hv : ∀ p q b, p < np → q < np → p ≠ q → b < P → zv_vec P N (zv_mx P b 1 (y p) (y q)) ∧ zv_pt P N (zv_mx P b 1 (y p) (y q)) < np) (hnp0 : 0 < np) (hB1 : zv_ns P N c np y = 0 → zv_nl P N c np y ≤ 128) (hB2 : zv_ns P N c np y = 0 → zv_npl P N c np y ≤ 30) : zm_Ev zt_get 7 139 [.ref 0] (zw_M g gl a al) (fun v w => v = none ∧ ∃ (x25 : Int32) (fo f6 f7 f9 f10 f11 f12 f13 f14 : Nat → Int32) (nl npl : Nat), w = (zw_M (upd (upd (upd (upd (upd g 10 (nI (zC (zv_oo P N c y) np))) 11 (nI (zv_ns P N c np y))) 12 (nI nl)) 14 (nI npl)) 25 x25) gl (va_up (va_up (va_up (va_up (va_up (va_up (va_up (va_up (va_up a 5 fo) 6 f6) 7 f7) 9 f9) 10 f10) 11 f11) 12 f12) 13 f13) 14 f14) al) ∧ (∀ p, p < np → fo p = nI (zv_oo P N c y p).toNat) ∧ (zv_ns P N c np y ≠ 0 → nl = 0 ∧ npl = 0) ∧ (zv_ns P N c np y = 0 → nl = zv_nl P N c np y ∧ npl = zv_npl P N c np y ∧ (∀ l, l < nl → ∀ k, k < P + 1 → f6 (6 * l + k) = nI (zv_line P N c np y l k)) ∧ ∀ l, l < npl → ∀ k, k < 7 → f7 (7 * l + k) = nI (zv_plane P N c np y l k))) := by
  obtain ⟨hP, hN, hP0, hP5, hN6, hc, hc4⟩ := id hF
  obtain ⟨hnp, hnp1, hy, hy4⟩ := id hR
  refine zr_ev zt_M_layForm rfl rfl ?_
  show zm_Run zt_get 6 zt_M_layForm (0, [some (.ref 0), none], [], (zw_M g gl a al)) _
  refine zr_go (t := (22, [some (.ref 0), some (.int 0)], [], (zw_M (upd (upd (upd (upd g 10 0) 11 0) 12 0) 14 0) gl a al))) 14 rfl ?_
  refine zr_loop (fun zq : Nat × Nat × (Nat → Int32) × (Nat → Int32) => (22, [some (.ref 0), some (.int (nI zq.1))], [], (zw_M (upd (upd (upd (upd g 10 (nI zq.2.1)) 11 0) 12 0) 14 0) gl (va_up (va_up a 5 zq.2.2.1) 9 zq.2.2.2) al))) (fun zq => zq.1 ≤ np ∧ zq.2.1 = zC (zv_oo P N c y) zq.1 ∧ ∀ t, t < zq.1 → zq.2.2.1 t = nI ((zv_oo P N c y) t).toNat) (fun zq => np - zq.1) ?_ (0, 0, a 5, a 9) ⟨by omega, rfl, fun t h => absurd h (Nat.not_lt_zero t)⟩
  rintro ⟨k, M, fo, f9⟩ ⟨hk, hM, hfo⟩ ih
  try dsimp only at *
  refine zr_go (t := (27, [some (.ref 0), some (.int (nI k))], [.int (g 6), .int (nI k)], (zw_M (upd (upd (upd (upd g 10 (nI M)) 11 0) 12 0) 14 0) gl (va_up (va_up a 5 fo) 9 f9) al))) 3 rfl ?_
  refine zr_ige (x := nI k) (y := g 6) k np rfl hnp (by omega) (by omega) (t := (78, [some (.ref 0), some (.int (nI k))], [], (zw_M (upd (upd (upd (upd g 10 (nI M)) 11 0) 12 0) 14 0) gl (va_up (va_up a 5 fo) 9 f9) al))) (f := (30, [some (.ref 0), some (.int (nI k))], [], (zw_M (upd (upd (upd (upd g 10 (nI M)) 11 0) 12 0) 14 0) gl (va_up (va_up a 5 fo) 9 f9) al))) rfl (fun h1 => ?_) (fun h1 => ?_)
  · skip
    have e1 : np = k := by omega
    subst e1
    subst hM
    refine zr_go (t := (80, [some (.ref 0), some (.int 0)], [], (zw_M (upd (upd (upd (upd g 10 (nI (zC (zv_oo P N c y) np))) 11 0) 12 0) 14 0) gl (va_up (va_up a 5 fo) 9 f9) al))) 2 rfl ?_
    refine zr_loop (fun zq : Nat × Nat × (Nat → Int32) × (Nat → Int32) × (Nat → Int32) => (80, [some (.ref 0), some (.int (nI zq.1))], [], (zw_M (upd (upd (upd (upd g 10 (nI (zC (zv_oo P N c y) np))) 11 (nI zq.2.1)) 12 0) 14 0) gl (va_up (va_up (va_up (va_up a 5 fo) 9 zq.2.2.1) 10 zq.2.2.2.1) 11 zq.2.2.2.2) al))) (fun zq => zq.1 ≤ np ∧ zq.2.1 = zC (zv_isS P N c np y (zv_oo P N c y)) zq.1) (fun zq => np - zq.1) ?_ (0, 0, f9, a 10, a 11) ⟨by omega, rfl⟩
    rintro ⟨k, S, d9, d10, d11⟩ ⟨hk2, hS⟩ ih2
    try dsimp only at *
    refine zr_go (t := (85, [some (.ref 0), some (.int (nI k))], [.int (g 6), .int (nI k)], (zw_M (upd (upd (upd (upd g 10 (nI (zC (zv_oo P N c y) np))) 11 (nI S)) 12 0) 14 0) gl (va_up (va_up (va_up (va_up a 5 fo) 9 d9) 10 d10) 11 d11) al))) 3 rfl ?_
    refine zr_ige (x := nI k) (y := g 6) k np rfl hnp (by omega) (by omega) (t := (116, [some (.ref 0), some (.int (nI k))], [], (zw_M (upd (upd (upd (upd g 10 (nI (zC (zv_oo P N c y) np))) 11 (nI S)) 12 0) 14 0) gl (va_up (va_up (va_up (va_up a 5 fo) 9 d9) 10 d10) 11 d11) al))) (f := (88, [some (.ref 0), some (.int (nI k))], [], (zw_M (upd (upd (upd (upd g 10 (nI (zC (zv_oo P N c y) np))) 11 (nI S)) 12 0) 14 0) gl (va_up (va_up (va_up (va_up a 5 fo) 9 d9) 10 d10) 11 d11) al))) rfl (fun h2 => ?_) (fun h2 => ?_)
    · skip
      have e2 : np = k := by omega
      subst e2
      have hS2 : S = zv_ns P N c np y := hS
      subst hS2
      have hSl : zv_ns P N c np y ≤ np := zC_le _ _
      refine zr_go (t := (120, [some (.ref 0), some (.int (nI np))], [.int (nI (zv_ns P N c np y))], (zw_M (upd (upd (upd (upd g 10 (nI (zC (zv_oo P N c y) np))) 11 (nI (zv_ns P N c np y))) 12 0) 14 0) gl (va_up (va_up (va_up (va_up a 5 fo) 9 d9) 10 d10) 11 d11) al))) 2 rfl ?_
      refine zr_ine (x := nI (zv_ns P N c np y)) (y := 0) (zv_ns P N c np y) 0 rfl rfl (by omega) (by omega) (t := (131, [some (.ref 0), some (.int (nI np))], [], (zw_M (upd (upd (upd (upd g 10 (nI (zC (zv_oo P N c y) np))) 11 (nI (zv_ns P N c np y))) 12 0) 14 0) gl (va_up (va_up (va_up (va_up a 5 fo) 9 d9) 10 d10) 11 d11) al))) (f := (123, [some (.ref 0), some (.int (nI np))], [], (zw_M (upd (upd (upd (upd g 10 (nI (zC (zv_oo P N c y) np))) 11 (nI (zv_ns P N c np y))) 12 0) 14 0) gl (va_up (va_up (va_up (va_up a 5 fo) 9 d9) 10 d10) 11 d11) al))) rfl (fun h3 => ?_) (fun h3 => ?_)
      · skip
        exact zr_ret rfl trivial ⟨rfl, g 25, fo, a 6, a 7, d9, d10, d11, a 12, a 13, a 14, 0, 0, rfl, hfo, fun _ => ⟨rfl, rfl⟩, fun q => absurd q h3⟩
      · skip
        refine zr_go (t := (124, [some (.ref 0), some (.int (nI np))], [.ref 0], (zw_M (upd (upd (upd (upd g 10 (nI (zC (zv_oo P N c y) np))) 11 (nI (zv_ns P N c np y))) 12 0) 14 0) gl (va_up (va_up (va_up (va_up a 5 fo) 9 d9) 10 d10) 11 d11) al))) 1 rfl ?_
        refine zr_call (t := (127, [some (.ref 0), some (.int (nI np))], [], (zw_M (upd (upd (upd (upd g 10 (nI (zC (zv_oo P N c y) np))) 11 (nI (zv_ns P N c np y))) 12 0) 14 0) gl (va_up (va_up (va_up (va_up a 5 fo) 9 d9) 10 d10) 11 d11) al))) rfl (Nat.le_of_ble_eq_true rfl : 5 ≤ 6) (zs_M_layLines (upd (upd (upd (upd g 10 (nI (zC (zv_oo P N c y) np))) 11 (nI (zv_ns P N c np y))) 12 0) 14 0) gl (va_up (va_up (va_up (va_up a 5 fo) 9 d9) 10 d10) 11 d11) al P N hP hN hPP hN6 hA hnum np y hR (zv_oo P N c y) hfo hnp0 (hB1 h3) hv) ?_
        rintro _ _ ⟨rfl, x25, l6, l12, l13, rfl, hl6⟩
        show zm_Run zt_get 6 zt_M_layForm (127, [some (.ref 0), some (.int (nI np))], [], (zw_M (upd (upd (upd (upd (upd g 10 (nI (zC (zv_oo P N c y) np))) 11 (nI (zv_ns P N c np y))) 12 (nI (zv_nl P N c np y))) 14 0) 25 x25) gl (va_up (va_up (va_up (va_up (va_up (va_up (va_up a 5 fo) 6 l6) 9 d9) 10 d10) 11 d11) 12 l12) 13 l13) al)) _
        have hl7 : ∀ l, l < zv_nl P N c np y → ∀ k, k < P + 1 → l6 (6 * l + k) = nI (zv_line P N c np y l k) := by
          intro l hl k hk
          obtain ⟨z1, z2, z3⟩ := zX_ok hl
          have z4 := hl6 _ z1 z2 k hk
          rw [z3] at z4
          exact z4
        refine zr_go (t := (128, [some (.ref 0), some (.int (nI np))], [.ref 0], (zw_M (upd (upd (upd (upd (upd g 10 (nI (zC (zv_oo P N c y) np))) 11 (nI (zv_ns P N c np y))) 12 (nI (zv_nl P N c np y))) 14 0) 25 x25) gl (va_up (va_up (va_up (va_up (va_up (va_up (va_up a 5 fo) 6 l6) 9 d9) 10 d10) 11 d11) 12 l12) 13 l13) al))) 1 rfl ?_
        refine zr_call (t := (131, [some (.ref 0), some (.int (nI np))], [], (zw_M (upd (upd (upd (upd (upd g 10 (nI (zC (zv_oo P N c y) np))) 11 (nI (zv_ns P N c np y))) 12 (nI (zv_nl P N c np y))) 14 0) 25 x25) gl (va_up (va_up (va_up (va_up (va_up (va_up (va_up a 5 fo) 6 l6) 9 d9) 10 d10) 11 d11) 12 l12) 13 l13) al))) rfl (Nat.le_of_ble_eq_true rfl : 6 ≤ 6) (zs_M_layPlanes (upd (upd (upd (upd (upd g 10 (nI (zC (zv_oo P N c y) np))) 11 (nI (zv_ns P N c np y))) 12 (nI (zv_nl P N c np y))) 14 0) 25 x25) gl (va_up (va_up (va_up (va_up (va_up (va_up (va_up a 5 fo) 6 l6) 9 d9) 10 d10) 11 d11) 12 l12) 13 l13) al P N hP hN hPP hN6 hA hnum np y hR (zv_oo P N c y) hfo hv (zv_nl P N c np y) rfl (hB1 h3) hnp0 (zv_lp0 P N c np y) (zv_lq0 P N c np y) (fun l hl => ⟨hl7 l hl, (zv_line_ok hnp0 hl).1, (zv_line_ok hnp0 hl).2.1, (zv_line_ok hnp0 hl).2.2.1, (zv_line_ok hnp0 hl).2.2.2.1, (zv_line_ok hnp0 hl).2.2.2.2.1⟩) (hB2 h3)) ?_
        rintro _ _ ⟨rfl, y25, p7, p12, p13, p14, rfl, hp7⟩
        show zm_Run zt_get 6 zt_M_layForm (131, [some (.ref 0), some (.int (nI np))], [], (zw_M (upd (upd (upd (upd (upd g 10 (nI (zC (zv_oo P N c y) np))) 11 (nI (zv_ns P N c np y))) 12 (nI (zv_nl P N c np y))) 14 (nI (zv_npl P N c np y))) 25 y25) gl (va_up (va_up (va_up (va_up (va_up (va_up (va_up (va_up (va_up a 5 fo) 6 l6) 7 p7) 9 d9) 10 d10) 11 d11) 12 p12) 13 p13) 14 p14) al)) _
        exact zr_ret rfl trivial ⟨rfl, y25, fo, l6, p7, d9, d10, d11, p12, p13, p14, _, _, rfl, hfo, fun q => absurd h3 q, fun _ => ⟨rfl, rfl, hl7, fun l hl k hk => by obtain ⟨z1, z2, z3⟩ := zX_ok hl; have z4 := hp7 _ z1 z2 k hk; rw [z3] at z4; exact z4⟩⟩
    · skip
      refine zr_go (t := (95, [some (.ref 0), some (.int (nI k))], [.int (nI k), .ref 0, .int (nI S), .ref 0], (zw_M (upd (upd (upd (upd g 10 (nI (zC (zv_oo P N c y) np))) 11 (nI S)) 12 0) 14 0) gl (va_up (va_up (va_up (va_up a 5 fo) 9 d9) 10 d10) 11 d11) al))) 5 rfl ?_
      refine zr_call (t := (98, [some (.ref 0), some (.int (nI k))], [.int (nI S), .ref 0], (zw_M (upd (upd (upd (upd g 10 (nI (zC (zv_oo P N c y) np))) 11 (nI S)) 12 0) 14 0) gl (va_up (va_up (va_up (va_up a 5 fo) 9 d9) 10 d10) 11 d11) al))) rfl (Nat.le_of_ble_eq_true rfl : 4 ≤ 6) (zs_M_isSingular (upd (upd (upd (upd g 10 (nI (zC (zv_oo P N c y) np))) 11 (nI S)) 12 0) 14 0) gl (va_up (va_up (va_up (va_up a 5 fo) 9 d9) 10 d10) 11 d11) al P N c hF np y hR (zv_oo P N c y) hfo k h2) ?_
      rintro _ _ ⟨rfl, e9, e10, e11, rfl⟩
      show zm_Run zt_get 6 zt_M_layForm (98, [some (.ref 0), some (.int (nI k))], [.int (nI (((zv_isS P N c np y (zv_oo P N c y)) k).toNat)), .int (nI S), .ref 0], (zw_M (upd (upd (upd (upd g 10 (nI (zC (zv_oo P N c y) np))) 11 (nI S)) 12 0) 14 0) gl (va_up (va_up (va_up (va_up a 5 fo) 9 e9) 10 e10) 11 e11) al)) _
      have hs1 := zb_le ((zv_isS P N c np y (zv_oo P N c y)) k)
      refine zr_ieq (x := nI (((zv_isS P N c np y (zv_oo P N c y)) k).toNat)) (y := 0) (((zv_isS P N c np y (zv_oo P N c y)) k).toNat) 0 rfl rfl (by omega) (by omega) (t := (105, [some (.ref 0), some (.int (nI k))], [.int (nI S), .ref 0], (zw_M (upd (upd (upd (upd g 10 (nI (zC (zv_oo P N c y) np))) 11 (nI S)) 12 0) 14 0) gl (va_up (va_up (va_up (va_up a 5 fo) 9 e9) 10 e10) 11 e11) al))) (f := (101, [some (.ref 0), some (.int (nI k))], [.int (nI S), .ref 0], (zw_M (upd (upd (upd (upd g 10 (nI (zC (zv_oo P N c y) np))) 11 (nI S)) 12 0) 14 0) gl (va_up (va_up (va_up (va_up a 5 fo) 9 e9) 10 e10) 11 e11) al))) rfl (fun h3 => ?_) (fun h3 => ?_)
      · skip
        refine zr_go (t := (80, [some (.ref 0), some (.int ((nI k) + 1))], [], (zw_M (upd (upd (upd (upd g 10 (nI (zC (zv_oo P N c y) np))) 11 ((nI S) + 0)) 12 0) 14 0) gl (va_up (va_up (va_up (va_up a 5 fo) 9 e9) 10 e10) 11 e11) al))) 5 rfl ?_
        rw [show (nI k) + 1 = nI (k + 1) from (zn_add rfl rfl)]
        rw [show (nI S) + 0 = nI (S + 0) from (zn_add rfl rfl)]
        exact ih2 (k + 1, S + 0, e9, e10, e11) ⟨by omega, by rw [hS]; show _ = _ + ((zv_isS P N c np y (zv_oo P N c y)) k).toNat; rw [zb_0 h3]; rfl⟩ (by omega)
      · skip
        refine zr_go (t := (80, [some (.ref 0), some (.int ((nI k) + 1))], [], (zw_M (upd (upd (upd (upd g 10 (nI (zC (zv_oo P N c y) np))) 11 ((nI S) + 1)) 12 0) 14 0) gl (va_up (va_up (va_up (va_up a 5 fo) 9 e9) 10 e10) 11 e11) al))) 6 rfl ?_
        rw [show (nI k) + 1 = nI (k + 1) from (zn_add rfl rfl)]
        rw [show (nI S) + 1 = nI (S + 1) from (zn_add rfl rfl)]
        exact ih2 (k + 1, S + 1, e9, e10, e11) ⟨by omega, by rw [hS]; show _ = _ + ((zv_isS P N c np y (zv_oo P N c y)) k).toNat; rw [zb_1 h3]; rfl⟩ (by omega)
  · skip
    refine zr_go (t := (37, [some (.ref 0), some (.int (nI k))], [.int (nI k), .ref 0, .int (nI k), .ref 5], (zw_M (upd (upd (upd (upd g 10 (nI M)) 11 0) 12 0) 14 0) gl (va_up (va_up a 5 fo) 9 f9) al))) 5 rfl ?_
    refine zr_call (t := (40, [some (.ref 0), some (.int (nI k))], [.int (nI k), .ref 5], (zw_M (upd (upd (upd (upd g 10 (nI M)) 11 0) 12 0) 14 0) gl (va_up (va_up a 5 fo) 9 f9) al))) rfl (Nat.le_of_ble_eq_true rfl : 2 ≤ 6) (zs_M_valueAt (upd (upd (upd (upd g 10 (nI M)) 11 0) 12 0) 14 0) gl (va_up (va_up a 5 fo) 9 f9) al P N c hF k (by omega) (y k) (fun i hi => hy k i h1 hi) (fun i hi => hy4 k i h1 hi)) ?_
    rintro _ _ ⟨rfl, e9, rfl⟩
    show zm_Run zt_get 6 zt_M_layForm (40, [some (.ref 0), some (.int (nI k))], [.int (nI (zv_val P N c (y k))), .int (nI k), .ref 5], (zw_M (upd (upd (upd (upd g 10 (nI M)) 11 0) 12 0) 14 0) gl (va_up (va_up a 5 fo) 9 e9) al)) _
    have hvl : zv_val P N c (y k) < P := zv_val_lt hP0
    refine zr_ine (x := nI (zv_val P N c (y k))) (y := 0) (zv_val P N c (y k)) 0 rfl rfl (by omega) (by omega) (t := (47, [some (.ref 0), some (.int (nI k))], [.int (nI k), .ref 5], (zw_M (upd (upd (upd (upd g 10 (nI M)) 11 0) 12 0) 14 0) gl (va_up (va_up a 5 fo) 9 e9) al))) (f := (43, [some (.ref 0), some (.int (nI k))], [.int (nI k), .ref 5], (zw_M (upd (upd (upd (upd g 10 (nI M)) 11 0) 12 0) 14 0) gl (va_up (va_up a 5 fo) 9 e9) al))) rfl (fun h2 => ?_) (fun h2 => ?_)
    · skip
      have hoo : (zv_oo P N c y) k = false := zb_ne0 h2
      refine zr_go (t := (48, [some (.ref 0), some (.int (nI k))], [.int 0, .int (nI k), .ref 5], (zw_M (upd (upd (upd (upd g 10 (nI M)) 11 0) 12 0) 14 0) gl (va_up (va_up a 5 fo) 9 e9) al))) 1 rfl ?_
      refine zr_cd (t := (49, [some (.ref 0), some (.int (nI k))], [], (zw_M (upd (upd (upd (upd g 10 (nI M)) 11 0) 12 0) 14 0) gl (va_up (va_up a 5 (upd fo ((nI k).toNatClampNeg) (vp_nar .boolean 0))) 9 e9) al))) rfl (pk_in k 156 (by omega) rfl (by omega)) ?_
      rw [pk_cl (x := (nI k)) k rfl (by omega)]
      rw [show vp_nar .boolean 0 = nI (false).toNat from by decide]
      refine zr_go (t := (59, [some (.ref 0), some (.int (nI k))], [.int (nI k), .ref 5, .int (nI M), .ref 0], (zw_M (upd (upd (upd (upd g 10 (nI M)) 11 0) 12 0) 14 0) gl (va_up (va_up a 5 (upd fo k (nI (false).toNat))) 9 e9) al))) 6 rfl ?_
      refine zr_cd (t := (60, [some (.ref 0), some (.int (nI k))], [.int ((upd fo k (nI (false).toNat)) (nI k).toNatClampNeg), .int (nI M), .ref 0], (zw_M (upd (upd (upd (upd g 10 (nI M)) 11 0) 12 0) 14 0) gl (va_up (va_up a 5 (upd fo k (nI (false).toNat))) 9 e9) al))) rfl (pk_in k 156 (by omega) rfl (by omega)) ?_
      rw [pk_cl (x := (nI k)) k rfl (by omega)]
      rw [show (upd fo k (nI (false).toNat)) k = nI ((false).toNat) from pk_us]
      have htf : (false).toNat ≤ 1 := by decide
      refine zr_ieq (x := nI ((false).toNat)) (y := 0) ((false).toNat) 0 rfl rfl (by omega) (by omega) (t := (67, [some (.ref 0), some (.int (nI k))], [.int (nI M), .ref 0], (zw_M (upd (upd (upd (upd g 10 (nI M)) 11 0) 12 0) 14 0) gl (va_up (va_up a 5 (upd fo k (nI (false).toNat))) 9 e9) al))) (f := (63, [some (.ref 0), some (.int (nI k))], [.int (nI M), .ref 0], (zw_M (upd (upd (upd (upd g 10 (nI M)) 11 0) 12 0) 14 0) gl (va_up (va_up a 5 (upd fo k (nI (false).toNat))) 9 e9) al))) rfl (fun h3 => ?_) (fun h3 => ?_)
      · skip
        refine zr_go (t := (22, [some (.ref 0), some (.int ((nI k) + 1))], [], (zw_M (upd (upd (upd (upd g 10 ((nI M) + 0)) 11 0) 12 0) 14 0) gl (va_up (va_up a 5 (upd fo k (nI (false).toNat))) 9 e9) al))) 5 rfl ?_
        rw [show (nI k) + 1 = nI (k + 1) from (zn_add rfl rfl)]
        rw [show (nI M) + 0 = nI (M + 0) from (zn_add rfl rfl)]
        exact ih (k + 1, M + 0, (upd fo k (nI (false).toNat)), e9) ⟨by omega, by rw [hM]; show _ = _ + ((zv_oo P N c y) k).toNat; rw [hoo]; rfl, lt_s (fun t ht => (pk_un (Nat.ne_of_lt ht)).trans (hfo t ht)) (by rw [hoo]; exact pk_us)⟩ (by omega)
      · skip
        exact absurd h3 (by decide)
    · skip
      have hoo : (zv_oo P N c y) k = true := zb_eq0 h2
      refine zr_go (t := (48, [some (.ref 0), some (.int (nI k))], [.int 1, .int (nI k), .ref 5], (zw_M (upd (upd (upd (upd g 10 (nI M)) 11 0) 12 0) 14 0) gl (va_up (va_up a 5 fo) 9 e9) al))) 2 rfl ?_
      refine zr_cd (t := (49, [some (.ref 0), some (.int (nI k))], [], (zw_M (upd (upd (upd (upd g 10 (nI M)) 11 0) 12 0) 14 0) gl (va_up (va_up a 5 (upd fo ((nI k).toNatClampNeg) (vp_nar .boolean 1))) 9 e9) al))) rfl (pk_in k 156 (by omega) rfl (by omega)) ?_
      rw [pk_cl (x := (nI k)) k rfl (by omega)]
      rw [show vp_nar .boolean 1 = nI (true).toNat from by decide]
      refine zr_go (t := (59, [some (.ref 0), some (.int (nI k))], [.int (nI k), .ref 5, .int (nI M), .ref 0], (zw_M (upd (upd (upd (upd g 10 (nI M)) 11 0) 12 0) 14 0) gl (va_up (va_up a 5 (upd fo k (nI (true).toNat))) 9 e9) al))) 6 rfl ?_
      refine zr_cd (t := (60, [some (.ref 0), some (.int (nI k))], [.int ((upd fo k (nI (true).toNat)) (nI k).toNatClampNeg), .int (nI M), .ref 0], (zw_M (upd (upd (upd (upd g 10 (nI M)) 11 0) 12 0) 14 0) gl (va_up (va_up a 5 (upd fo k (nI (true).toNat))) 9 e9) al))) rfl (pk_in k 156 (by omega) rfl (by omega)) ?_
      rw [pk_cl (x := (nI k)) k rfl (by omega)]
      rw [show (upd fo k (nI (true).toNat)) k = nI ((true).toNat) from pk_us]
      have htf : (true).toNat ≤ 1 := by decide
      refine zr_ieq (x := nI ((true).toNat)) (y := 0) ((true).toNat) 0 rfl rfl (by omega) (by omega) (t := (67, [some (.ref 0), some (.int (nI k))], [.int (nI M), .ref 0], (zw_M (upd (upd (upd (upd g 10 (nI M)) 11 0) 12 0) 14 0) gl (va_up (va_up a 5 (upd fo k (nI (true).toNat))) 9 e9) al))) (f := (63, [some (.ref 0), some (.int (nI k))], [.int (nI M), .ref 0], (zw_M (upd (upd (upd (upd g 10 (nI M)) 11 0) 12 0) 14 0) gl (va_up (va_up a 5 (upd fo k (nI (true).toNat))) 9 e9) al))) rfl (fun h3 => ?_) (fun h3 => ?_)
      · skip
        exact absurd h3 (by decide)
      · skip
        refine zr_go (t := (22, [some (.ref 0), some (.int ((nI k) + 1))], [], (zw_M (upd (upd (upd (upd g 10 ((nI M) + 1)) 11 0) 12 0) 14 0) gl (va_up (va_up a 5 (upd fo k (nI (true).toNat))) 9 e9) al))) 6 rfl ?_
        rw [show (nI k) + 1 = nI (k + 1) from (zn_add rfl rfl)]
        rw [show (nI M) + 1 = nI (M + 1) from (zn_add rfl rfl)]
        exact ih (k + 1, M + 1, (upd fo k (nI (true).toNat)), e9) ⟨by omega, by rw [hM]; show _ = _ + ((zv_oo P N c y) k).toNat; rw [hoo]; rfl, lt_s (fun t ht => (pk_un (Nat.ne_of_lt ht)).trans (hfo t ht)) (by rw [hoo]; exact pk_us)⟩ (by omega)
theorem zs_M_layNew (g : Nat → Int32) (gl : Nat → Int64) (a : Nat → Nat → Int32) (al : Nat → Nat → Int64) (P N : Nat) (c : Nat → Nat) (hF : zc_F g a P N c) (hPP : P = 2 ∨ P = 3 ∨ P = 5) (hA : P ^ N ≤ 729) (hnum : ∀ t, 1 ≤ t → t < P ^ N → a 4 t = if zv_l1 P N t then nI (zv_cnt P N t) else -1) (np : Nat) (y : Nat → Nat → Nat) (hR : zc_R g a np y) (hv : ∀ p q b, p < np → q < np → p ≠ q → b < P → zv_vec P N (zv_mx P b 1 (y p) (y q)) ∧ zv_pt P N (zv_mx P b 1 (y p) (y q)) < np) (hnp0 : 0 < np) (hB1 : zv_ns P N c np y = 0 → zv_nl P N c np y ≤ 128) (hB2 : zv_ns P N c np y = 0 → zv_npl P N c np y ≤ 30) : zm_Ev zt_get 8 140 [.ref 0] (zw_M g gl a al) (fun v w => v = none ∧ ∃ (x25 : Int32) (fo f6 f7 f9 f10 f11 f12 f13 f14 f16 : Nat → Int32) (nl npl : Nat), w = (zw_M (upd (upd (upd (upd (upd g 10 (nI (zC (zv_oo P N c y) np))) 11 (nI (zv_ns P N c np y))) 12 (nI nl)) 14 (nI npl)) 25 x25) gl (va_up (va_up (va_up (va_up (va_up (va_up (va_up (va_up (va_up (va_up a 5 fo) 6 f6) 7 f7) 9 f9) 10 f10) 11 f11) 12 f12) 13 f13) 14 f14) 16 f16) al) ∧ (f16 0 = 0 ∧ f16 1 = 0) ∧ (∀ p, p < np → fo p = nI (zv_oo P N c y p).toNat) ∧ (zv_ns P N c np y ≠ 0 → nl = 0 ∧ npl = 0) ∧ (zv_ns P N c np y = 0 → nl = zv_nl P N c np y ∧ npl = zv_npl P N c np y ∧ (∀ l, l < nl → ∀ k, k < P + 1 → f6 (6 * l + k) = nI (zv_line P N c np y l k)) ∧ ∀ l, l < npl → ∀ k, k < 7 → f7 (7 * l + k) = nI (zv_plane P N c np y l k))) := by
  refine zr_ev zt_M_layNew rfl rfl ?_
  show zm_Run zt_get 7 zt_M_layNew (0, [some (.ref 0)], [], (zw_M g gl a al)) _
  refine zr_go (t := (1, [some (.ref 0)], [.ref 0], (zw_M g gl a al))) 1 rfl ?_
  refine zr_call (t := (4, [some (.ref 0)], [], (zw_M g gl a al))) rfl (Nat.le_of_ble_eq_true rfl : 7 ≤ 7) (zs_M_layForm g gl a al P N c hF hPP hA hnum np y hR hv hnp0 hB1 hB2) ?_
  rintro _ _ ⟨rfl, x25, fo, f6, f7, f9, f10, f11, f12, f13, f14, nl, npl, rfl, hpost⟩
  show zm_Run zt_get 7 zt_M_layNew (4, [some (.ref 0)], [], (zw_M (upd (upd (upd (upd (upd g 10 (nI (zC (zv_oo P N c y) np))) 11 (nI (zv_ns P N c np y))) 12 (nI nl)) 14 (nI npl)) 25 x25) gl (va_up (va_up (va_up (va_up (va_up (va_up (va_up (va_up (va_up a 5 fo) 6 f6) 7 f7) 9 f9) 10 f10) 11 f11) 12 f12) 13 f13) 14 f14) al)) _
  refine zr_go (t := (10, [some (.ref 0)], [.int 0, .int 0, .ref 16], (zw_M (upd (upd (upd (upd (upd g 10 (nI (zC (zv_oo P N c y) np))) 11 (nI (zv_ns P N c np y))) 12 (nI nl)) 14 (nI npl)) 25 x25) gl (va_up (va_up (va_up (va_up (va_up (va_up (va_up (va_up (va_up a 5 fo) 6 f6) 7 f7) 9 f9) 10 f10) 11 f11) 12 f12) 13 f13) 14 f14) al))) 4 rfl ?_
  refine zr_cd (t := (11, [some (.ref 0)], [], (zw_M (upd (upd (upd (upd (upd g 10 (nI (zC (zv_oo P N c y) np))) 11 (nI (zv_ns P N c np y))) 12 (nI nl)) 14 (nI npl)) 25 x25) gl (va_up (va_up (va_up (va_up (va_up (va_up (va_up (va_up (va_up (va_up a 5 fo) 6 f6) 7 f7) 9 f9) 10 f10) 11 f11) 12 f12) 13 f13) 14 f14) 16 (upd (a 16) ((0 : Int32).toNatClampNeg) 0)) al))) rfl (pk_in 0 2 (by omega) rfl (by omega)) ?_
  rw [pk_cl (x := (0 : Int32)) 0 rfl (by omega)]
  refine zr_go (t := (17, [some (.ref 0)], [.int 0, .int 1, .ref 16], (zw_M (upd (upd (upd (upd (upd g 10 (nI (zC (zv_oo P N c y) np))) 11 (nI (zv_ns P N c np y))) 12 (nI nl)) 14 (nI npl)) 25 x25) gl (va_up (va_up (va_up (va_up (va_up (va_up (va_up (va_up (va_up (va_up a 5 fo) 6 f6) 7 f7) 9 f9) 10 f10) 11 f11) 12 f12) 13 f13) 14 f14) 16 (upd (a 16) 0 0)) al))) 4 rfl ?_
  refine zr_cd (t := (18, [some (.ref 0)], [], (zw_M (upd (upd (upd (upd (upd g 10 (nI (zC (zv_oo P N c y) np))) 11 (nI (zv_ns P N c np y))) 12 (nI nl)) 14 (nI npl)) 25 x25) gl (va_up (va_up (va_up (va_up (va_up (va_up (va_up (va_up (va_up (va_up a 5 fo) 6 f6) 7 f7) 9 f9) 10 f10) 11 f11) 12 f12) 13 f13) 14 f14) 16 (upd (upd (a 16) 0 0) ((1 : Int32).toNatClampNeg) 0)) al))) rfl (pk_in 1 2 (by omega) rfl (by omega)) ?_
  rw [pk_cl (x := (1 : Int32)) 1 rfl (by omega)]
  exact zr_ret rfl trivial ⟨rfl, x25, fo, f6, f7, f9, f10, f11, f12, f13, f14, (upd (upd (a 16) 0 0) 1 0), nl, npl, rfl, ⟨rfl, rfl⟩, hpost⟩
end
