section
/-! A MACHINE OF OUR OWN over pictures: values whose references are places in a list of cells, one step a function, methods by number. -/
def zm_v (ad : Nat → Nat) : Value → Value
  | .ref i => .ref (ad i)
  | v => v
abbrev zm_E : Type := (Nat × vp_A) ⊕ (Nat × List Value)
def zm_e (tc : Nat → ClassId) (ad : Nat → Nat) : zm_E → va_E
  | .inl a => .inl (tc a.1, a.2)
  | .inr o => .inr (o.1, o.2.map (zm_v ad))
def zm_w (tc : Nat → ClassId) (ad : Nat → Nat) : Nat → List zm_E → va_W
  | _, [] => []
  | i, x :: l => (ad i, zm_e tc ad x) :: zm_w tc ad (i + 1) l
def zm_n {α : Type} : List α → Nat → Option α
  | [], _ => none
  | a :: _, 0 => some a
  | _ :: l, n + 1 => zm_n l n
abbrev zm_S : Type := Nat × List (Option Value) × List Value × List zm_E
abbrev zm_R : Type := Option ((Option Prop × zm_S) ⊕ ((Prop × zm_S × zm_S) ⊕ ((Prop × Option Value × List zm_E) ⊕ (Nat × List Value × zm_S))))
def zm_r0 (s : zm_S) : zm_R := some (.inl (none, s))
def zm_r1 (c : Prop) (s : zm_S) : zm_R := some (.inl (some c, s))
def zm_c : Option Prop → Prop
  | none => True
  | some c => c
def zm_r2 (c : Prop) (s t : zm_S) : zm_R := some (.inr (.inl (c, s, t)))
def zm_r3 (c : Prop) (v : Option Value) (w : List zm_E) : zm_R := some (.inr (.inr (.inl (c, v, w))))
def zm_r4 (k : Nat) (as : List Value) (s : zm_S) : zm_R := some (.inr (.inr (.inr (k, as, s))))
/-- an instruction: itself, its length, a number, a long, three numbers (a local's place, a target, a class and a field, a method and its arguments and its class) -/
abbrev zm_I : Type := Instr × Nat × Int32 × Int64 × Nat × Nat × Nat
/-- a method: name, bytes, locals, answer, parameters, static or not, its class's number, its instructions by their places -/
abbrev zm_M : Type := MethodName × ByteArray × Nat × Option FieldType × Nat × Bool × Nat × List (Option zm_I)
/-- a local is stored: a long in front of it is gone -/
def zm_k (lv : List (Option Value)) : Nat → List (Option Value)
  | 0 => lv
  | j + 1 => match zm_n lv j with
    | some (some (.long _)) => lv.set j none
    | some (some (.double _)) => lv.set j none
    | _ => lv
def zm_s1 (lv : List (Option Value)) (i : Nat) (v : Value) : List (Option Value) := (zm_k lv i).set i (some v)
def zm_s2 (lv : List (Option Value)) (i : Nat) (v : Value) : List (Option Value) := ((zm_k lv i).set (i + 1) none).set i (some v)
def zm_sw (pc : Nat) (d lo hi : Int) (offs : Array Int) (x : Int32) : Nat := if x.toInt < lo ∨ hi < x.toInt then ((pc : Int) + d).toNat else ((pc : Int) + (offs[(x.toInt - lo).toNat]?).getD 0).toNat
section ZMX
variable (pc : Nat) (lv : List (Option Value)) (ws : List zm_E)
def zm_xi2 (f : Int32 → Int32 → Int32) : List Value → zm_R
  | .int y :: .int x :: r => zm_r0 (pc, lv, .int (f x y) :: r, ws)
  | _ => none
def zm_xd2 (f : Int32 → Int32 → Int32) : List Value → zm_R
  | .int y :: .int x :: r => zm_r1 (¬ y = 0) (pc, lv, .int (f x y) :: r, ws)
  | _ => none
def zm_xl2 (f : Int64 → Int64 → Int64) : List Value → zm_R
  | .long y :: .long x :: r => zm_r0 (pc, lv, .long (f x y) :: r, ws)
  | _ => none
def zm_xm2 (f : Int64 → Int64 → Int64) : List Value → zm_R
  | .long y :: .long x :: r => zm_r1 (¬ y = 0) (pc, lv, .long (f x y) :: r, ws)
  | _ => none
def zm_xs2 (f : Int64 → Int32 → Int64) : List Value → zm_R
  | .int y :: .long x :: r => zm_r0 (pc, lv, .long (f x y) :: r, ws)
  | _ => none
/-- a branch on one number: to where, if .. -/
def zm_b1 (f : Int32 → Prop) (u : Nat) : List Value → zm_R
  | .int x :: r => zm_r2 (f x) (u, lv, r, ws) (pc, lv, r, ws)
  | _ => none
def zm_b2 (f : Int32 → Int32 → Prop) (u : Nat) : List Value → zm_R
  | .int y :: .int x :: r => zm_r2 (f x y) (u, lv, r, ws) (pc, lv, r, ws)
  | _ => none
def zm_b1n (u : Nat) : List Value → zm_R
  | .int x :: r => zm_r2 (x = 0) (pc, lv, r, ws) (u, lv, r, ws)
  | _ => none
def zm_b2n (u : Nat) : List Value → zm_R
  | .int y :: .int x :: r => zm_r2 (x = y) (pc, lv, r, ws) (u, lv, r, ws)
  | _ => none
def zm_xld (st : List Value) (t : Nat) : Option (Option Value) → zm_R
  | some (some (.int x)) => match t with
    | 0 => zm_r0 (pc, lv, .int x :: st, ws)
    | _ => none
  | some (some (.long x)) => match t with
    | 1 => zm_r0 (pc, lv, .long x :: st, ws)
    | _ => none
  | some (some (.ref x)) => match t with
    | 2 => zm_r0 (pc, lv, .ref x :: st, ws)
    | _ => none
  | _ => none
def zm_xsi (u : Nat) : List Value → zm_R
  | .int x :: r => zm_r0 (pc, zm_s1 lv u (.int x), r, ws)
  | _ => none
def zm_xsl (u : Nat) : List Value → zm_R
  | .long x :: r => zm_r0 (pc, zm_s2 lv u (.long x), r, ws)
  | _ => none
def zm_xsa (u : Nat) : List Value → zm_R
  | .ref x :: r => zm_r0 (pc, zm_s1 lv u (.ref x), r, ws)
  | _ => none
def zm_xinc (st : List Value) (u : Nat) (c : Int32) : Option (Option Value) → zm_R
  | some (some (.int x)) => zm_r0 (pc, zm_s1 lv u (.int (x + c)), st, ws)
  | _ => none
def zm_xget (r : List Value) (u w : Nat) : Option zm_E → zm_R
  | some (.inr (ci, fs)) => match Nat.beq ci u with
    | true => match zm_n fs w with
      | some v => zm_r0 (pc, lv, v :: r, ws)
      | none => none
    | false => none
  | _ => none
/-- a field's type: 0 int, 1 long, 2 boolean -/
def zm_xput (a : Nat) (r : List Value) (u w : Nat) (v : Value) (P : Option Prop) : Option zm_E → zm_R
  | some (.inr (ci, fs)) => match Nat.beq ci u with
    | true => match Nat.ble (w + 1) fs.length with
      | true => some (.inl (P, (pc, lv, r, ws.set a (.inr (ci, fs.set w v)))))
      | false => none
    | false => none
  | _ => none
def zm_xput0 (u w z : Nat) : List Value → zm_R
  | .int x :: .ref a :: r => match z with
    | 0 => zm_xput pc lv ws a r u w (.int x) none (zm_n ws a)
    | 2 => zm_xput pc lv ws a r u w (.int x) (some (x = 0 ∨ x = 1)) (zm_n ws a)
    | _ => none
  | .long x :: .ref a :: r => match z with
    | 1 => zm_xput pc lv ws a r u w (.long x) none (zm_n ws a)
    | _ => none
  | _ => none
def zm_xald (r : List Value) (i : Int32) (t : Nat) : Option zm_E → zm_R
  | some (.inl (k, n, .inl f)) => match Nat.beq k t with
    | true => zm_r1 (vp_in i n) (pc, lv, .int (f i.toNatClampNeg) :: r, ws)
    | false => none
  | _ => none
def zm_xlald (r : List Value) (i : Int32) : Option zm_E → zm_R
  | some (.inl (k, n, .inr (.inl f))) => match Nat.beq k 1 with
    | true => zm_r1 (vp_in i n) (pc, lv, .long (f i.toNatClampNeg) :: r, ws)
    | false => none
  | _ => none
def zm_xast (a : Nat) (r : List Value) (i x : Int32) (t : Nat) : Option zm_E → zm_R
  | some (.inl (k, n, .inl f)) => match Nat.beq k t with
    | true => zm_r1 (vp_in i n) (pc, lv, r, ws.set a (.inl (k, n, .inl (upd f i.toNatClampNeg x))))
    | false => none
  | _ => none
def zm_xlast (a : Nat) (r : List Value) (i : Int32) (x : Int64) : Option zm_E → zm_R
  | some (.inl (k, n, .inr (.inl f))) => match Nat.beq k 1 with
    | true => zm_r1 (vp_in i n) (pc, lv, r, ws.set a (.inl (k, n, .inr (.inl (vp_updL f i.toNatClampNeg x)))))
    | false => none
  | _ => none
def zm_al (t : Nat) : List Value → zm_R
  | .int i :: .ref a :: r => zm_xald pc lv ws r i t (zm_n ws a)
  | _ => none
def zm_lal : List Value → zm_R
  | .int i :: .ref a :: r => zm_xlald pc lv ws r i (zm_n ws a)
  | _ => none
def zm_as (t : Nat) (g : Int32 → Int32) : List Value → zm_R
  | .int x :: .int i :: .ref a :: r => zm_xast pc lv ws a r i (g x) t (zm_n ws a)
  | _ => none
def zm_las : List Value → zm_R
  | .long x :: .int i :: .ref a :: r => zm_xlast pc lv ws a r i x (zm_n ws a)
  | _ => none
def zm_gf (u w : Nat) : List Value → zm_R
  | .ref a :: r => zm_xget pc lv ws r u w (zm_n ws a)
  | _ => none
def zm_cv2 (b : Nat) (r as : List Value) (u z : Nat) : Option zm_E → zm_R
  | some (.inr (ci, _)) => match Nat.beq ci z with
    | true => match Nat.ble ((r.map fun v => v.category).sum) 8 with
      | true => zm_r4 u (.ref b :: as.reverse) (pc, lv, r, ws)
      | false => none
    | false => none
  | _ => none
def zm_cv (u z : Nat) (as : List Value) : List Value → zm_R
  | .ref b :: r => zm_cv2 pc lv ws b r as u z (zm_n ws b)
  | _ => none
/-- an array of numbers is copied into another one, from the first place on (arraycopy, n numbers) -/
def zm_cpy2 (a : Nat) (r : List Value) (n : Int32) (f : Nat → Int32) (n0 : Nat) : Option zm_E → zm_R
  | some (.inl (k, n1, .inl g)) => match Nat.beq k 0 with
    | true => zm_r1 (¬ n < 0 ∧ n.toNatClampNeg ≤ n0 ∧ n.toNatClampNeg ≤ n1) (pc, lv, r, ws.set a (.inl (k, n1, .inl (va_cpy f g 0 0 n.toNatClampNeg))))
    | false => none
  | _ => none
def zm_cpy1 (a : Nat) (r : List Value) (n : Int32) : Option zm_E → zm_R
  | some (.inl (k, n0, .inl f)) => match Nat.beq k 0 with
    | true => zm_cpy2 pc lv ws a r n f n0 (zm_n ws a)
    | false => none
  | _ => none
def zm_cpy : List Value → zm_R
  | .int n :: .int dp :: .ref a :: .int sp :: .ref a0 :: r => match decide (dp = 0 ∧ sp = 0) with
    | true => match Nat.ble ((r.map fun v => v.category).sum) 8 with
      | true => zm_cpy1 pc lv ws a r n (zm_n ws a0)
      | false => none
    | false => none
  | _ => none
/-- Math.min -/
def zm_min : List Value → zm_R
  | .int y :: .int x :: r => match Nat.ble ((r.map fun v => v.category).sum) 8 with
    | true => zm_r0 (pc, lv, .int (if y < x then y else x) :: r, ws)
    | false => none
  | _ => none
def zm_cs (u w : Nat) (st : List Value) : zm_R := match Nat.ble w st.length with
  | true => match Nat.ble (((st.drop w).map fun v => v.category).sum) 8 with
    | true => zm_r4 u (st.take w).reverse (pc, lv, st.drop w, ws)
    | false => none
  | false => none
def zm_dup : List Value → zm_R
  | a :: r => match Nat.beq a.category 1 with
    | true => zm_r0 (pc, lv, a :: a :: r, ws)
    | false => none
  | _ => none
def zm_dup2 : List Value → zm_R
  | a :: b :: r => match Nat.beq a.category 1 with
    | true => match Nat.beq b.category 1 with
      | true => zm_r0 (pc, lv, a :: b :: a :: b :: r, ws)
      | false => none
    | false => none
  | _ => none
def zm_ri (rt : Option FieldType) : List Value → zm_R
  | [.int x] => match rt with
    | some .int => zm_r3 True (some (.int x)) ws
    | some .boolean => zm_r3 (x = 0 ∨ x = 1) (some (.int x)) ws
    | _ => none
  | _ => none
def zm_rl (rt : Option FieldType) : List Value → zm_R
  | [.long x] => match rt with
    | some .long => zm_r3 True (some (.long x)) ws
    | _ => none
  | _ => none
def zm_ra (rt : Option FieldType) : List Value → zm_R
  | [.ref x] => match rt with
    | some (.object _) => zm_r3 True (some (.ref x)) ws
    | _ => none
  | _ => none
def zm_rv (rt : Option FieldType) : List Value → zm_R
  | [] => match rt with
    | none => zm_r3 True none ws
    | _ => none
  | _ => none
def zm_xsw (pc0 : Nat) (d lo hi : Int) (offs : Array Int) : List Value → zm_R
  | .int x :: r => zm_r0 (zm_sw pc0 d lo hi offs x, lv, r, ws)
  | _ => none
def zm_x1 (f : Int32 → Int32) : List Value → zm_R
  | .int x :: r => zm_r0 (pc, lv, .int (f x) :: r, ws)
  | _ => none
def zm_x1l (f : Int64 → Int64) : List Value → zm_R
  | .long x :: r => zm_r0 (pc, lv, .long (f x) :: r, ws)
  | _ => none
def zm_xi2l : List Value → zm_R
  | .int x :: r => zm_r0 (pc, lv, .long x.toInt64 :: r, ws)
  | _ => none
def zm_xl2i : List Value → zm_R
  | .long x :: r => zm_r0 (pc, lv, .int x.toInt32 :: r, ws)
  | _ => none
def zm_xcmp : List Value → zm_R
  | .long y :: .long x :: r => zm_r0 (pc, lv, .int (lg_cmp x y) :: r, ws)
  | _ => none
end ZMX
/-- one step -/
def zm_x (rt : Option FieldType) (q : zm_I) (pc : Nat) (lv : List (Option Value)) (st : List Value) (ws : List zm_E) : zm_R :=
  match q.1 with
  | .iconst _ => zm_r0 (pc + q.2.1, lv, .int q.2.2.1 :: st, ws)
  | .bipush _ => zm_r0 (pc + q.2.1, lv, .int q.2.2.1 :: st, ws)
  | .sipush _ => zm_r0 (pc + q.2.1, lv, .int q.2.2.1 :: st, ws)
  | .ldc _ => zm_r0 (pc + q.2.1, lv, .int q.2.2.1 :: st, ws)
  | .ldc_w _ => zm_r0 (pc + q.2.1, lv, .int q.2.2.1 :: st, ws)
  | .lconst _ => zm_r0 (pc + q.2.1, lv, .long q.2.2.2.1 :: st, ws)
  | .ldc2_w _ => zm_r0 (pc + q.2.1, lv, .long q.2.2.2.1 :: st, ws)
  | .iload_n _ => zm_xld (pc + q.2.1) lv ws st 0 (zm_n lv q.2.2.2.2.1)
  | .iload _ => zm_xld (pc + q.2.1) lv ws st 0 (zm_n lv q.2.2.2.2.1)
  | .lload_n _ => zm_xld (pc + q.2.1) lv ws st 1 (zm_n lv q.2.2.2.2.1)
  | .lload _ => zm_xld (pc + q.2.1) lv ws st 1 (zm_n lv q.2.2.2.2.1)
  | .aload_n _ => zm_xld (pc + q.2.1) lv ws st 2 (zm_n lv q.2.2.2.2.1)
  | .aload _ => zm_xld (pc + q.2.1) lv ws st 2 (zm_n lv q.2.2.2.2.1)
  | .istore_n _ => zm_xsi (pc + q.2.1) lv ws q.2.2.2.2.1 st
  | .istore _ => zm_xsi (pc + q.2.1) lv ws q.2.2.2.2.1 st
  | .lstore_n _ => zm_xsl (pc + q.2.1) lv ws q.2.2.2.2.1 st
  | .lstore _ => zm_xsl (pc + q.2.1) lv ws q.2.2.2.2.1 st
  | .astore_n _ => zm_xsa (pc + q.2.1) lv ws q.2.2.2.2.1 st
  | .astore _ => zm_xsa (pc + q.2.1) lv ws q.2.2.2.2.1 st
  | .iinc _ _ => zm_xinc (pc + q.2.1) lv ws st q.2.2.2.2.1 q.2.2.1 (zm_n lv q.2.2.2.2.1)
  | .iadd => zm_xi2 (pc + q.2.1) lv ws (fun x y => x + y) st
  | .isub => zm_xi2 (pc + q.2.1) lv ws (fun x y => x - y) st
  | .imul => zm_xi2 (pc + q.2.1) lv ws (fun x y => x * y) st
  | .iand => zm_xi2 (pc + q.2.1) lv ws (fun x y => x &&& y) st
  | .ishl => zm_xi2 (pc + q.2.1) lv ws (fun x y => x <<< (y &&& 31)) st
  | .idiv => zm_xd2 (pc + q.2.1) lv ws (fun x y => x / y) st
  | .irem => zm_xd2 (pc + q.2.1) lv ws (fun x y => x - x / y * y) st
  | .ineg => zm_x1 (pc + q.2.1) lv ws (fun x => -x) st
  | .ladd => zm_xl2 (pc + q.2.1) lv ws (fun x y => x + y) st
  | .lsub => zm_xl2 (pc + q.2.1) lv ws (fun x y => x - y) st
  | .lmul => zm_xl2 (pc + q.2.1) lv ws (fun x y => x * y) st
  | .land => zm_xl2 (pc + q.2.1) lv ws (fun x y => x &&& y) st
  | .lor => zm_xl2 (pc + q.2.1) lv ws (fun x y => x ||| y) st
  | .lxor => zm_xl2 (pc + q.2.1) lv ws (fun x y => x ^^^ y) st
  | .ldiv => zm_xm2 (pc + q.2.1) lv ws (fun x y => x / y) st
  | .lrem => zm_xm2 (pc + q.2.1) lv ws (fun x y => x - x / y * y) st
  | .lneg => zm_x1l (pc + q.2.1) lv ws (fun x => -x) st
  | .lshl => zm_xs2 (pc + q.2.1) lv ws (fun x y => x <<< (y.toInt64 &&& 63)) st
  | .lshr => zm_xs2 (pc + q.2.1) lv ws (fun x y => x >>> (y.toInt64 &&& 63)) st
  | .lushr => zm_xs2 (pc + q.2.1) lv ws (fun x y => (x.toUInt64 >>> (y.toInt64.toUInt64 &&& Int64.toUInt64 63)).toInt64) st
  | .i2l => zm_xi2l (pc + q.2.1) lv ws st
  | .l2i => zm_xl2i (pc + q.2.1) lv ws st
  | .lcmp => zm_xcmp (pc + q.2.1) lv ws st
  | .dup => zm_dup (pc + q.2.1) lv ws st
  | .dup2 => zm_dup2 (pc + q.2.1) lv ws st
  | .ifCond k _ => match k with
    | .eq => zm_b1 (pc + q.2.1) lv ws (fun x => x = 0) q.2.2.2.2.1 st
    | .ne => zm_b1n (pc + q.2.1) lv ws q.2.2.2.2.1 st
    | .lt => zm_b1 (pc + q.2.1) lv ws (fun x => x < 0) q.2.2.2.2.1 st
    | .ge => zm_b1 (pc + q.2.1) lv ws (fun x => 0 ≤ x) q.2.2.2.2.1 st
    | .gt => zm_b1 (pc + q.2.1) lv ws (fun x => 0 < x) q.2.2.2.2.1 st
    | .le => zm_b1 (pc + q.2.1) lv ws (fun x => x ≤ 0) q.2.2.2.2.1 st
  | .if_icmp k _ => match k with
    | .eq => zm_b2 (pc + q.2.1) lv ws (fun x y => x = y) q.2.2.2.2.1 st
    | .ne => zm_b2n (pc + q.2.1) lv ws q.2.2.2.2.1 st
    | .lt => zm_b2 (pc + q.2.1) lv ws (fun x y => x < y) q.2.2.2.2.1 st
    | .ge => zm_b2 (pc + q.2.1) lv ws (fun x y => y ≤ x) q.2.2.2.2.1 st
    | .gt => zm_b2 (pc + q.2.1) lv ws (fun x y => y < x) q.2.2.2.2.1 st
    | .le => zm_b2 (pc + q.2.1) lv ws (fun x y => x ≤ y) q.2.2.2.2.1 st
  | .goto _ => zm_r0 (q.2.2.2.2.1, lv, st, ws)
  | .tableswitch d lo hi offs => zm_xsw lv ws pc d lo hi offs st
  | .getfield _ => zm_gf (pc + q.2.1) lv ws q.2.2.2.2.1 q.2.2.2.2.2.1 st
  | .putfield _ => zm_xput0 (pc + q.2.1) lv ws q.2.2.2.2.1 q.2.2.2.2.2.1 q.2.2.2.2.2.2 st
  | .iaload => zm_al (pc + q.2.1) lv ws 0 st
  | .baload => zm_al (pc + q.2.1) lv ws 2 st
  | .laload => zm_lal (pc + q.2.1) lv ws st
  | .iastore => zm_as (pc + q.2.1) lv ws 0 (fun x => x) st
  | .bastore => zm_as (pc + q.2.1) lv ws 2 (vp_nar .boolean) st
  | .lastore => zm_las (pc + q.2.1) lv ws st
  | .invokevirtual _ => zm_cv (pc + q.2.1) lv ws q.2.2.2.2.1 q.2.2.2.2.2.2 (st.take q.2.2.2.2.2.1) (st.drop q.2.2.2.2.2.1)
  | .invokestatic _ => match Nat.beq q.2.2.2.2.2.2 99 with
    | true => zm_cpy (pc + q.2.1) lv ws st
    | false => match Nat.beq q.2.2.2.2.2.2 98 with
      | true => zm_min (pc + q.2.1) lv ws st
      | false => zm_cs (pc + q.2.1) lv ws q.2.2.2.2.1 q.2.2.2.2.2.1 st
  | .ireturn => zm_ri ws rt st
  | .lreturn => zm_rl ws rt st
  | .areturn => zm_ra ws rt st
  | .return_ => zm_rv ws rt st
  | _ => none
def zm_nx (M : zm_M) (s : zm_S) : zm_R := match zm_n M.2.2.2.2.2.2.2 s.1 with
  | some (some q) => zm_x M.2.2.2.1 q s.1 s.2.1 s.2.2.1 s.2.2.2
  | _ => none
/-- fewer known locals -/
def zm_le : List (Option Value) → List (Option Value) → Prop
  | [], [] => True
  | a :: l, b :: m => (a = none ∨ a = b) ∧ zm_le l m
  | _, _ => False
def zm_o (ev : Nat → List Value → List zm_E → Option Value → List zm_E → Prop) (go : zm_S → Prop) (v : Option Value) (w : List zm_E) : zm_R → Prop
  | some (.inl (c, t)) => zm_c c ∧ go t
  | some (.inr (.inl (c, t, f))) => (c ∧ go t) ∨ (¬ c ∧ go f)
  | some (.inr (.inr (.inl (c, v0, w0)))) => c ∧ v = v0 ∧ w = w0
  | some (.inr (.inr (.inr (k, as, t)))) => ∃ v1 w1, ev k as t.2.2.2 v1 w1 ∧ go (t.1, t.2.1, v1.toList ++ t.2.2.1, w1)
  | none => False
def zm_rn (ev : Nat → List Value → List zm_E → Option Value → List zm_E → Prop) (M : zm_M) (v : Option Value) (w : List zm_E) : Nat → zm_S → Prop
  | 0, _ => False
  | n + 1, s => (∃ lv, zm_le lv s.2.1 ∧ zm_rn ev M v w n (s.1, lv, s.2.2)) ∨ zm_o ev (zm_rn ev M v w n) v w (zm_nx M s)
/-- the locals at the start -/
def zm_a0 : List Value → List (Option Value)
  | [] => []
  | .long x :: l => some (.long x) :: none :: zm_a0 l
  | .double x :: l => some (.double x) :: none :: zm_a0 l
  | v :: l => some v :: zm_a0 l
def zm_in (M : zm_M) (as : List Value) (ws : List zm_E) : zm_S := (0, zm_a0 as ++ List.replicate (M.2.2.1 - (zm_a0 as).length) none, [], ws)
def zm_ev (get : Nat → Option zm_M) : Nat → Nat → List Value → List zm_E → Option Value → List zm_E → Prop
  | 0, _, _, _, _, _ => False
  | d + 1, k, as, ws, v, w => ∃ M n, get k = some M ∧ (zm_a0 as).length ≤ M.2.2.1 ∧ zm_rn (zm_ev get d) M v w n (zm_in M as ws)
def zm_Run (get : Nat → Option zm_M) (d : Nat) (M : zm_M) (s : zm_S) (Q : Option Value → List zm_E → Prop) : Prop := ∃ n v w, zm_rn (zm_ev get d) M v w n s ∧ Q v w
def zm_Ev (get : Nat → Option zm_M) (d : Nat) (k : Nat) (as : List Value) (ws : List zm_E) (Q : Option Value → List zm_E → Prop) : Prop := ∃ v w, zm_ev get d k as ws v w ∧ Q v w
/-- n steps that ask nothing -/
def zm_un (M : zm_M) : Nat → zm_S → Option zm_S
  | 0, s => some s
  | n + 1, s => match zm_nx M s with
    | some (.inl (none, t)) => zm_un M n t
    | _ => none
end
section
/-! The step of our machine is the JVM's: each instruction by the kit's row. -/
theorem zm_n_eq {α : Type} (l : List α) (i : Nat) : zm_n l i = l[i]? := by
  induction l generalizing i with
  | nil => rfl
  | cons a l ih => cases i with
    | zero => rfl
    | succ i => simpa [zm_n] using ih i
theorem zm_w_get (tc : Nat → ClassId) (ad : Nat → Nat) (ws : List zm_E) (i a : Nat) : (zm_w tc ad i ws)[a]? = (zm_n ws a).map (fun x => (ad (i + a), zm_e tc ad x)) := by
  induction ws generalizing i a with
  | nil => rfl
  | cons x l ih => cases a with
    | zero => rfl
    | succ a =>
      show (zm_w tc ad (i + 1) l)[a]? = _
      rw [ih, show i + 1 + a = i + (a + 1) by omega]
      rfl
theorem zm_w_at {tc : Nat → ClassId} {ad : Nat → Nat} {ws : List zm_E} {a : Nat} {x : zm_E} (h : zm_n ws a = some x) : (zm_w tc ad 0 ws)[a]? = some (ad a, zm_e tc ad x) := by
  rw [zm_w_get, h, Nat.zero_add]; rfl
theorem zm_w_set (tc : Nat → ClassId) (ad : Nat → Nat) (ws : List zm_E) (x : zm_E) (i a : Nat) : zm_w tc ad i (ws.set a x) = (zm_w tc ad i ws).set a (ad (i + a), zm_e tc ad x) := by
  induction ws generalizing i a with
  | nil => rfl
  | cons y l ih => cases a with
    | zero => rfl
    | succ a =>
      show _ :: zm_w tc ad (i + 1) (l.set a x) = _ :: (zm_w tc ad (i + 1) l).set a _
      rw [ih, show i + 1 + a = i + (a + 1) by omega]
theorem zm_w_set0 (tc : Nat → ClassId) (ad : Nat → Nat) (ws : List zm_E) (x : zm_E) (a : Nat) : (zm_w tc ad 0 ws).set a (ad a, zm_e tc ad x) = zm_w tc ad 0 (ws.set a x) := by
  rw [zm_w_set, Nat.zero_add]
theorem zm_v_cat (ad : Nat → Nat) (v : Value) : (zm_v ad v).category = v.category := by cases v <;> rfl
theorem zm_cats (ad : Nat → Nat) (r : List Value) : ((r.map (zm_v ad)).map fun v => v.category) = r.map fun v => v.category := by
  rw [List.map_map]; exact List.map_congr_left fun v _ => zm_v_cat ad v
/-- the locals of the machine are those of the picture -/
def zm_L (ad : Nat → Nat) (ls : Array Slot) (nL : Nat) (lv : List (Option Value)) : Prop := ls.size = nL ∧ lv_wf ls ∧ ∀ (i : Nat) (v : Value), zm_n lv i = some (some v) → ls[i]? = some (.val (zm_v ad v))
theorem zm_L.list {ad : Nat → Nat} {ls : Array Slot} {nL : Nat} {lv : List (Option Value)} (h : zm_L ad ls nL lv) : ∃ l, lv_has ls nL l ∧ ∀ (i : Nat) (v : Value), zm_n lv i = some (some v) → (i, zm_v ad v) ∈ l := by
  refine ⟨(List.range lv.length).filterMap (fun i => match zm_n lv i with
    | some (some v) => some (i, zm_v ad v)
    | _ => none), ⟨h.1, h.2.1, fun q hq => ?_⟩, fun i v hi => ?_⟩
  · obtain ⟨i, -, hi⟩ := List.mem_filterMap.mp hq
    split at hi
    next v hv => cases hi; exact h.2.2 i v hv
    next => cases hi
  · refine List.mem_filterMap.mpr ⟨i, ?_, by rw [hi]⟩
    rw [zm_n_eq] at hi
    exact List.mem_range.mpr (List.getElem?_eq_some_iff.mp hi).1
theorem zm_k_get {lv : List (Option Value)} {i j : Nat} {v : Value} (h : zm_n (zm_k lv i) j = some (some v)) : zm_n lv j = some (some v) ∧ ¬ (j + 1 = i ∧ v.category = 2) := by
  cases i with
  | zero => exact ⟨h, fun q => by omega⟩
  | succ i =>
    have key : ∀ w : Value, zm_n lv i = some (some w) → zm_n (lv.set i none) j = some (some v) → zm_n lv j = some (some v) ∧ ¬ (j + 1 = i + 1 ∧ v.category = 2) := by
      intro w hw hj
      rw [zm_n_eq] at hj hw ⊢
      by_cases e : i = j
      · subst e
        rw [List.getElem?_set_self (List.getElem?_eq_some_iff.mp hw).1] at hj
        cases hj
      · rw [List.getElem?_set_ne e] at hj
        exact ⟨hj, fun q => e (by omega)⟩
    simp only [zm_k] at h
    split at h
    next x hx => exact key _ hx h
    next x hx => exact key _ hx h
    next h1 h2 =>
      refine ⟨h, fun q => ?_⟩
      have e : j = i := by omega
      subst e
      cases v with
      | long x => exact h1 x h
      | double x => exact h2 x h
      | _ => exact absurd q.2 (by simp [Value.category])
theorem zm_L.s1 {ad : Nat → Nat} {ls' : Array Slot} {nL i : Nat} {lv : List (Option Value)} {v : Value} {l : List (Nat × Value)} (hl : ∀ (i : Nat) (v : Value), zm_n lv i = some (some v) → (i, zm_v ad v) ∈ l) (h : lv_has ls' nL ((i, zm_v ad v) :: l.filter (fun q => !(q.1 == i) && !(q.1 + 1 == i && q.2.category == 2)))) : zm_L ad ls' nL (zm_s1 lv i v) := by
  refine ⟨h.1, h.2.1, fun j w hj => ?_⟩
  unfold zm_s1 at hj
  rw [zm_n_eq] at hj
  by_cases e : i = j
  · subst e
    by_cases hi : i < (zm_k lv i).length
    · rw [List.getElem?_set_self hi] at hj
      cases hj
      exact h.2.2 _ List.mem_cons_self
    · rw [List.getElem?_eq_none (by rw [List.length_set]; omega)] at hj
      cases hj
  · rw [List.getElem?_set_ne e, ← zm_n_eq] at hj
    obtain ⟨h1, h2⟩ := zm_k_get hj
    refine h.2.2 (j, zm_v ad w) (List.mem_cons_of_mem _ (List.mem_filter.mpr ⟨hl j w h1, ?_⟩))
    simp only [zm_v_cat, Bool.and_eq_true, Bool.not_eq_true', beq_eq_false_iff_ne, Bool.and_eq_false_iff, ne_eq]
    refine ⟨fun q => e q.symm, ?_⟩
    by_cases q1 : j + 1 = i
    · exact Or.inr fun q2 => h2 ⟨q1, q2⟩
    · exact Or.inl q1
theorem zm_L.s2 {ad : Nat → Nat} {ls' : Array Slot} {nL i : Nat} {lv : List (Option Value)} {v : Value} {l : List (Nat × Value)} (hl : ∀ (i : Nat) (v : Value), zm_n lv i = some (some v) → (i, zm_v ad v) ∈ l) (h : lv_has ls' nL ((i, zm_v ad v) :: l.filter (fun q => !(q.1 == i) && (!(q.1 == i + 1) && !(q.1 + 1 == i && q.2.category == 2))))) : zm_L ad ls' nL (zm_s2 lv i v) := by
  refine ⟨h.1, h.2.1, fun j w hj => ?_⟩
  unfold zm_s2 at hj
  rw [zm_n_eq] at hj
  by_cases e : i = j
  · subst e
    by_cases hi : i < ((zm_k lv i).set (i + 1) none).length
    · rw [List.getElem?_set_self hi] at hj
      cases hj
      exact h.2.2 _ List.mem_cons_self
    · rw [List.getElem?_eq_none (by rw [List.length_set]; omega)] at hj
      cases hj
  · rw [List.getElem?_set_ne e] at hj
    by_cases e2 : i + 1 = j
    · subst e2
      by_cases hi : i + 1 < (zm_k lv i).length
      · rw [List.getElem?_set_self hi] at hj
        cases hj
      · rw [List.getElem?_eq_none (by rw [List.length_set]; omega)] at hj
        cases hj
    · rw [List.getElem?_set_ne e2, ← zm_n_eq] at hj
      obtain ⟨h1, h2⟩ := zm_k_get hj
      refine h.2.2 (j, zm_v ad w) (List.mem_cons_of_mem _ (List.mem_filter.mpr ⟨hl j w h1, ?_⟩))
      simp only [zm_v_cat, Bool.and_eq_true, Bool.not_eq_true', beq_eq_false_iff_ne, Bool.and_eq_false_iff, ne_eq]
      refine ⟨fun q => e q.symm, fun q => e2 q.symm, ?_⟩
      by_cases q1 : j + 1 = i
      · exact Or.inr fun q2 => h2 ⟨q1, q2⟩
      · exact Or.inl q1
def zm_ft : Nat → FieldType
  | 0 => .int
  | 1 => .long
  | _ => .boolean
abbrev zm_tys (tc : Nat → ClassId) : List (ClassId × FieldType) := [(tc 0, .int), (tc 1, .long), (tc 2, .boolean)]
/-- a field's place, as the tables say it -/
def zm_okF (cl : List vw_C) (Ts nw : List Jvm.Cond) (own : String) (idx u w : Nat) : Prop := ∃ (C : String) (T : u_T) (N : Nat), cl[u]? = some (C, T, N) ∧ (∀ x ∈ u_ws C T N, x ∈ Ts) ∧ w < N ∧ (Jvm.Cond.fieldLink own idx (T w).1 (T w).2.1 (T w).2.2.1 ∈ Ts ∨ ∃ host, Jvm.Cond.fieldLinkNest own idx (T w).1 (T w).2.1 (T w).2.2.1 host ∈ nw)
def zm_okP (cl : List vw_C) (Ts nw : List Jvm.Cond) (own : String) (idx u w : Nat) (ty : FieldType) : Prop := zm_okF cl Ts nw own idx u w ∧ ∃ (C : String) (T : u_T) (N : Nat), cl[u]? = some (C, T, N) ∧ ∃ ty0 : Nat → FieldType, (∀ k, k < N → parseFieldDescriptor (T k).2.2.1 = some (ty0 k)) ∧ (∀ a, a < N → ∀ b, b < N → a ≠ b → (T a).2.1 ≠ (T b).2.1) ∧ (T w).2.2.2 = false ∧ parseFieldDescriptor (T w).2.2.1 = some ty
/-- from this place of the picture the machine comes to Q -/
def zm_G (p : Program) (l : Launch) (e : Env) (R : Room) (s : State) (m : MethodId) (args : Array Value) (below : List Frame) (meth : Method) (c : Code) (Q : State → Prop) (D : va_G) (cl : List vw_C) (tc : Nat → ClassId) (ad : Nat → Nat) (A : Nat → Prop) (nL L : Nat) (t : zm_S) : Prop :=
  ∀ (H : Heap) (locs : List Loc) (ls : Array Slot), zm_L ad ls nL t.2.1 → va_P D cl (zm_w tc ad 0 t.2.2.2) H → va_D A (zm_w tc ad 0 t.2.2.2) → va_S A s.heap H locs → t.2.2.2.length = L → W p l e R s m args below meth c H locs 0 0 Q (F0 m t.1 ls (t.2.2.1.map (zm_v ad)))
section ZMG
variable {p : Program} {l : Launch} {e : Env} {R : Room} {s : State} {m : MethodId} {args : Array Value} {below : List Frame} {meth : Method} {c : Code} {Q : State → Prop} {D : va_G} {cl : List vw_C} {tc : Nat → ClassId} {ad : Nat → Nat} {A : Nat → Prop} {nL L : Nat}
variable {cc : ByteArray} {pc : Nat} {lv : List (Option Value)} {st : List Value} {ws : List zm_E} {ev : Nat → List Value → List zm_E → Option Value → List zm_E → Prop} {v0 : Option Value} {w0 : List zm_E}
variable {k off d lo hi : Int} {offs : Array Int} {kf : Fin 2} {kk : Fin 4} {u w z idx len : Nat} {x y : Int32} {xl : Int64} {own : String} {Ts nw : List Jvm.Cond} {ty : FieldType}

theorem zg_iconst (hx : p.tables.exec = Jvm.exec) (hb : c.code = cc) (hd : decode cc pc = .ok (.iconst k, 1)) (hv : Int32.ofInt k = x) (h : zm_o ev (zm_G p l e R s m args below meth c Q D cl tc ad A nL L) v0 w0 (zm_r0 (pc + 1, lv, .int x :: st, ws))) : zm_G p l e R s m args below meth c Q D cl tc ad A nL L (pc, lv, st, ws) := by
  intro H locs ls hL hP hD hS hn
  exact lv_iconst hx hb hd hv (h.2 H locs ls hL hP hD hS hn)
theorem zg_bipush (hx : p.tables.exec = Jvm.exec) (hb : c.code = cc) (hd : decode cc pc = .ok (.bipush k, 2)) (hv : (Int8.ofInt k).toInt32 = x) (h : zm_o ev (zm_G p l e R s m args below meth c Q D cl tc ad A nL L) v0 w0 (zm_r0 (pc + 2, lv, .int x :: st, ws))) : zm_G p l e R s m args below meth c Q D cl tc ad A nL L (pc, lv, st, ws) := by
  intro H locs ls hL hP hD hS hn
  exact lv_bipush hx hb hd hv (h.2 H locs ls hL hP hD hS hn)
theorem zg_sipush (hx : p.tables.exec = Jvm.exec) (hb : c.code = cc) (hd : decode cc pc = .ok (.sipush k, 3)) (hv : (Int16.ofInt k).toInt32 = x) (h : zm_o ev (zm_G p l e R s m args below meth c Q D cl tc ad A nL L) v0 w0 (zm_r0 (pc + 3, lv, .int x :: st, ws))) : zm_G p l e R s m args below meth c Q D cl tc ad A nL L (pc, lv, st, ws) := by
  intro H locs ls hL hP hD hS hn
  exact lv_sipush hx hb hd hv (h.2 H locs ls hL hP hD hS hn)
theorem zg_lconst (hx : p.tables.exec = Jvm.exec) (hb : c.code = cc) (hd : decode cc pc = .ok (.lconst kf, 1)) (hv : Int64.ofNat (kf : Nat) = xl) (h : zm_o ev (zm_G p l e R s m args below meth c Q D cl tc ad A nL L) v0 w0 (zm_r0 (pc + 1, lv, .long xl :: st, ws))) : zm_G p l e R s m args below meth c Q D cl tc ad A nL L (pc, lv, st, ws) := by
  intro H locs ls hL hP hD hS hn
  exact lv_lconst hx hb hd hv (h.2 H locs ls hL hP hD hS hn)
theorem zg_ldc (hx : p.tables.exec = Jvm.exec) (hb : c.code = cc) (hd : decode cc pc = .ok (.ldc idx, 2)) (hown : s.vm.findClass own = some m.cls) (hc : (Jvm.Cond.constant own idx x).before args s = true) (h : zm_o ev (zm_G p l e R s m args below meth c Q D cl tc ad A nL L) v0 w0 (zm_r0 (pc + 2, lv, .int x :: st, ws))) : zm_G p l e R s m args below meth c Q D cl tc ad A nL L (pc, lv, st, ws) := by
  intro H locs ls hL hP hD hS hn
  exact lv_ldc hx hb hown hc hd (h.2 H locs ls hL hP hD hS hn)
theorem zg_ldc_w (hx : p.tables.exec = Jvm.exec) (hb : c.code = cc) (hd : decode cc pc = .ok (.ldc_w idx, 3)) (hown : s.vm.findClass own = some m.cls) (hc : (Jvm.Cond.constant own idx x).before args s = true) (h : zm_o ev (zm_G p l e R s m args below meth c Q D cl tc ad A nL L) v0 w0 (zm_r0 (pc + 3, lv, .int x :: st, ws))) : zm_G p l e R s m args below meth c Q D cl tc ad A nL L (pc, lv, st, ws) := by
  intro H locs ls hL hP hD hS hn
  exact lv_ldcw hx hb hown hc hd (h.2 H locs ls hL hP hD hS hn)
theorem zg_ldc2 (hx : p.tables.exec = Jvm.exec) (hb : c.code = cc) (hd : decode cc pc = .ok (.ldc2_w idx, 3)) (hown : s.vm.findClass own = some m.cls) (hc : (Jvm.Cond.constantLong own idx xl).before args s = true) (h : zm_o ev (zm_G p l e R s m args below meth c Q D cl tc ad A nL L) v0 w0 (zm_r0 (pc + 3, lv, .long xl :: st, ws))) : zm_G p l e R s m args below meth c Q D cl tc ad A nL L (pc, lv, st, ws) := by
  intro H locs ls hL hP hD hS hn
  exact lv_ldc2 hx hb hown hc hd (h.2 H locs ls hL hP hD hS hn)
theorem zg_iload_n (hx : p.tables.exec = Jvm.exec) (hb : c.code = cc) (hd : decode cc pc = .ok (.iload_n kk, 1)) (hu : (kk : Nat) = u) (h : zm_o ev (zm_G p l e R s m args below meth c Q D cl tc ad A nL L) v0 w0 (zm_xld (pc + 1) lv ws st 0 (zm_n lv u))) : zm_G p l e R s m args below meth c Q D cl tc ad A nL L (pc, lv, st, ws) := by
  rcases hq : zm_n lv u with _ | _ | v
  · rw [hq] at h; exact (show False from h).elim
  · rw [hq] at h; exact (show False from h).elim
  · rw [hq] at h
    cases v with
    | int x =>
      intro H locs ls hL hP hD hS hn
      exact lv_iload_n hx hb hd hu (hL.2.2 u _ hq) ((show True ∧ zm_G p l e R s m args below meth c Q D cl tc ad A nL L (pc + 1, lv, .int x :: st, ws) from h).2 H locs ls hL hP hD hS hn)
    | _ => exact (show False from h).elim
theorem zg_iload (hx : p.tables.exec = Jvm.exec) (hb : c.code = cc) (hd : decode cc pc = .ok (.iload u, 2))  (h : zm_o ev (zm_G p l e R s m args below meth c Q D cl tc ad A nL L) v0 w0 (zm_xld (pc + 2) lv ws st 0 (zm_n lv u))) : zm_G p l e R s m args below meth c Q D cl tc ad A nL L (pc, lv, st, ws) := by
  rcases hq : zm_n lv u with _ | _ | v
  · rw [hq] at h; exact (show False from h).elim
  · rw [hq] at h; exact (show False from h).elim
  · rw [hq] at h
    cases v with
    | int x =>
      intro H locs ls hL hP hD hS hn
      exact lv_iload hx hb hd (hL.2.2 u _ hq) ((show True ∧ zm_G p l e R s m args below meth c Q D cl tc ad A nL L (pc + 2, lv, .int x :: st, ws) from h).2 H locs ls hL hP hD hS hn)
    | _ => exact (show False from h).elim
theorem zg_lload_n (hx : p.tables.exec = Jvm.exec) (hb : c.code = cc) (hd : decode cc pc = .ok (.lload_n kk, 1)) (hu : (kk : Nat) = u) (h : zm_o ev (zm_G p l e R s m args below meth c Q D cl tc ad A nL L) v0 w0 (zm_xld (pc + 1) lv ws st 1 (zm_n lv u))) : zm_G p l e R s m args below meth c Q D cl tc ad A nL L (pc, lv, st, ws) := by
  rcases hq : zm_n lv u with _ | _ | v
  · rw [hq] at h; exact (show False from h).elim
  · rw [hq] at h; exact (show False from h).elim
  · rw [hq] at h
    cases v with
    | long x =>
      intro H locs ls hL hP hD hS hn
      exact lv_lload_n hx hb hd hu (hL.2.2 u _ hq) ((show True ∧ zm_G p l e R s m args below meth c Q D cl tc ad A nL L (pc + 1, lv, .long x :: st, ws) from h).2 H locs ls hL hP hD hS hn)
    | _ => exact (show False from h).elim
theorem zg_lload (hx : p.tables.exec = Jvm.exec) (hb : c.code = cc) (hd : decode cc pc = .ok (.lload u, 2))  (h : zm_o ev (zm_G p l e R s m args below meth c Q D cl tc ad A nL L) v0 w0 (zm_xld (pc + 2) lv ws st 1 (zm_n lv u))) : zm_G p l e R s m args below meth c Q D cl tc ad A nL L (pc, lv, st, ws) := by
  rcases hq : zm_n lv u with _ | _ | v
  · rw [hq] at h; exact (show False from h).elim
  · rw [hq] at h; exact (show False from h).elim
  · rw [hq] at h
    cases v with
    | long x =>
      intro H locs ls hL hP hD hS hn
      exact lv_lload hx hb hd (hL.2.2 u _ hq) ((show True ∧ zm_G p l e R s m args below meth c Q D cl tc ad A nL L (pc + 2, lv, .long x :: st, ws) from h).2 H locs ls hL hP hD hS hn)
    | _ => exact (show False from h).elim
theorem zg_aload_n (hx : p.tables.exec = Jvm.exec) (hb : c.code = cc) (hd : decode cc pc = .ok (.aload_n kk, 1)) (hu : (kk : Nat) = u) (h : zm_o ev (zm_G p l e R s m args below meth c Q D cl tc ad A nL L) v0 w0 (zm_xld (pc + 1) lv ws st 2 (zm_n lv u))) : zm_G p l e R s m args below meth c Q D cl tc ad A nL L (pc, lv, st, ws) := by
  rcases hq : zm_n lv u with _ | _ | v
  · rw [hq] at h; exact (show False from h).elim
  · rw [hq] at h; exact (show False from h).elim
  · rw [hq] at h
    cases v with
    | ref x =>
      intro H locs ls hL hP hD hS hn
      exact lv_aload_n hx hb hd hu (hL.2.2 u _ hq) ((show True ∧ zm_G p l e R s m args below meth c Q D cl tc ad A nL L (pc + 1, lv, .ref x :: st, ws) from h).2 H locs ls hL hP hD hS hn)
    | _ => exact (show False from h).elim
theorem zg_aload (hx : p.tables.exec = Jvm.exec) (hb : c.code = cc) (hd : decode cc pc = .ok (.aload u, 2))  (h : zm_o ev (zm_G p l e R s m args below meth c Q D cl tc ad A nL L) v0 w0 (zm_xld (pc + 2) lv ws st 2 (zm_n lv u))) : zm_G p l e R s m args below meth c Q D cl tc ad A nL L (pc, lv, st, ws) := by
  rcases hq : zm_n lv u with _ | _ | v
  · rw [hq] at h; exact (show False from h).elim
  · rw [hq] at h; exact (show False from h).elim
  · rw [hq] at h
    cases v with
    | ref x =>
      intro H locs ls hL hP hD hS hn
      exact lv_aload hx hb hd (hL.2.2 u _ hq) ((show True ∧ zm_G p l e R s m args below meth c Q D cl tc ad A nL L (pc + 2, lv, .ref x :: st, ws) from h).2 H locs ls hL hP hD hS hn)
    | _ => exact (show False from h).elim
theorem zg_istore_n (hx : p.tables.exec = Jvm.exec) (hb : c.code = cc) (hd : decode cc pc = .ok (.istore_n kk, 1)) (hu : (kk : Nat) = u) (hb2 : u < nL) (h : zm_o ev (zm_G p l e R s m args below meth c Q D cl tc ad A nL L) v0 w0 (zm_xsi (pc + 1) lv ws u st)) : zm_G p l e R s m args below meth c Q D cl tc ad A nL L (pc, lv, st, ws) := by
  unfold zm_xsi at h
  split at h
  next x r =>
    intro H locs ls hL hP hD hS hn
    obtain ⟨lst, hhas, hmem⟩ := hL.list
    exact lv_istore_n hx hb hd hu hhas hb2 rfl (fun ls' hl' => h.2 H locs ls' (zm_L.s1 (v := .int x) hmem hl') hP hD hS hn)
  next => exact h.elim
theorem zg_istore (hx : p.tables.exec = Jvm.exec) (hb : c.code = cc) (hd : decode cc pc = .ok (.istore u, 2))  (hb2 : u < nL) (h : zm_o ev (zm_G p l e R s m args below meth c Q D cl tc ad A nL L) v0 w0 (zm_xsi (pc + 2) lv ws u st)) : zm_G p l e R s m args below meth c Q D cl tc ad A nL L (pc, lv, st, ws) := by
  unfold zm_xsi at h
  split at h
  next x r =>
    intro H locs ls hL hP hD hS hn
    obtain ⟨lst, hhas, hmem⟩ := hL.list
    exact lv_istore hx hb hd hhas hb2 rfl (fun ls' hl' => h.2 H locs ls' (zm_L.s1 (v := .int x) hmem hl') hP hD hS hn)
  next => exact h.elim
theorem zg_lstore_n (hx : p.tables.exec = Jvm.exec) (hb : c.code = cc) (hd : decode cc pc = .ok (.lstore_n kk, 1)) (hu : (kk : Nat) = u) (hb2 : u + 1 < nL) (h : zm_o ev (zm_G p l e R s m args below meth c Q D cl tc ad A nL L) v0 w0 (zm_xsl (pc + 1) lv ws u st)) : zm_G p l e R s m args below meth c Q D cl tc ad A nL L (pc, lv, st, ws) := by
  unfold zm_xsl at h
  split at h
  next x r =>
    intro H locs ls hL hP hD hS hn
    obtain ⟨lst, hhas, hmem⟩ := hL.list
    exact lv_lstore_n hx hb hd hu hhas hb2 rfl (fun ls' hl' => h.2 H locs ls' (zm_L.s2 (v := .long x) hmem hl') hP hD hS hn)
  next => exact h.elim
theorem zg_lstore (hx : p.tables.exec = Jvm.exec) (hb : c.code = cc) (hd : decode cc pc = .ok (.lstore u, 2))  (hb2 : u + 1 < nL) (h : zm_o ev (zm_G p l e R s m args below meth c Q D cl tc ad A nL L) v0 w0 (zm_xsl (pc + 2) lv ws u st)) : zm_G p l e R s m args below meth c Q D cl tc ad A nL L (pc, lv, st, ws) := by
  unfold zm_xsl at h
  split at h
  next x r =>
    intro H locs ls hL hP hD hS hn
    obtain ⟨lst, hhas, hmem⟩ := hL.list
    exact lv_lstore hx hb hd hhas hb2 rfl (fun ls' hl' => h.2 H locs ls' (zm_L.s2 (v := .long x) hmem hl') hP hD hS hn)
  next => exact h.elim
theorem zg_astore_n (hx : p.tables.exec = Jvm.exec) (hb : c.code = cc) (hd : decode cc pc = .ok (.astore_n kk, 1)) (hu : (kk : Nat) = u) (hb2 : u < nL) (h : zm_o ev (zm_G p l e R s m args below meth c Q D cl tc ad A nL L) v0 w0 (zm_xsa (pc + 1) lv ws u st)) : zm_G p l e R s m args below meth c Q D cl tc ad A nL L (pc, lv, st, ws) := by
  unfold zm_xsa at h
  split at h
  next x r =>
    intro H locs ls hL hP hD hS hn
    obtain ⟨lst, hhas, hmem⟩ := hL.list
    exact lv_astore_n hx hb hd hu hhas hb2 rfl (fun ls' hl' => h.2 H locs ls' (zm_L.s1 (v := .ref x) hmem hl') hP hD hS hn)
  next => exact h.elim
theorem zg_astore (hx : p.tables.exec = Jvm.exec) (hb : c.code = cc) (hd : decode cc pc = .ok (.astore u, 2))  (hb2 : u < nL) (h : zm_o ev (zm_G p l e R s m args below meth c Q D cl tc ad A nL L) v0 w0 (zm_xsa (pc + 2) lv ws u st)) : zm_G p l e R s m args below meth c Q D cl tc ad A nL L (pc, lv, st, ws) := by
  unfold zm_xsa at h
  split at h
  next x r =>
    intro H locs ls hL hP hD hS hn
    obtain ⟨lst, hhas, hmem⟩ := hL.list
    exact lv_astore hx hb hd hhas hb2 rfl (fun ls' hl' => h.2 H locs ls' (zm_L.s1 (v := .ref x) hmem hl') hP hD hS hn)
  next => exact h.elim
theorem zg_iinc (hx : p.tables.exec = Jvm.exec) (hb : c.code = cc) (hd : decode cc pc = .ok (.iinc u k, 3)) (hv : Int32.ofInt k = y) (hb2 : u < nL) (h : zm_o ev (zm_G p l e R s m args below meth c Q D cl tc ad A nL L) v0 w0 (zm_xinc (pc + 3) lv ws st u y (zm_n lv u))) : zm_G p l e R s m args below meth c Q D cl tc ad A nL L (pc, lv, st, ws) := by
  rcases hq : zm_n lv u with _ | _ | v
  · rw [hq] at h; exact (show False from h).elim
  · rw [hq] at h; exact (show False from h).elim
  · rw [hq] at h
    cases v with
    | int x =>
      intro H locs ls hL hP hD hS hn
      obtain ⟨lst, hhas, hmem⟩ := hL.list
      obtain ⟨j, hj⟩ := List.getElem?_of_mem (hmem u _ hq)
      exact lv_iinc hx hb hd hhas hj (by rw [hv]) hb2 rfl (fun ls' hl' => (show True ∧ zm_G p l e R s m args below meth c Q D cl tc ad A nL L (pc + 3, zm_s1 lv u (.int (x + y)), st, ws) from h).2 H locs ls' (zm_L.s1 (v := .int (x + y)) hmem hl') hP hD hS hn)
    | _ => exact (show False from h).elim
theorem zg_iadd (hx : p.tables.exec = Jvm.exec) (hb : c.code = cc) (hd : decode cc pc = .ok (.iadd, 1)) (h : zm_o ev (zm_G p l e R s m args below meth c Q D cl tc ad A nL L) v0 w0 (zm_xi2 (pc + 1) lv ws (fun x y => x + y) st)) : zm_G p l e R s m args below meth c Q D cl tc ad A nL L (pc, lv, st, ws) := by
  unfold zm_xi2 at h
  split at h
  next y x r =>
    intro H locs ls hL hP hD hS hn
    exact lv_iadd hx hb hd (h.2 H locs ls hL hP hD hS hn)
  next => exact h.elim
theorem zg_isub (hx : p.tables.exec = Jvm.exec) (hb : c.code = cc) (hd : decode cc pc = .ok (.isub, 1)) (h : zm_o ev (zm_G p l e R s m args below meth c Q D cl tc ad A nL L) v0 w0 (zm_xi2 (pc + 1) lv ws (fun x y => x - y) st)) : zm_G p l e R s m args below meth c Q D cl tc ad A nL L (pc, lv, st, ws) := by
  unfold zm_xi2 at h
  split at h
  next y x r =>
    intro H locs ls hL hP hD hS hn
    exact lv_isub hx hb hd (h.2 H locs ls hL hP hD hS hn)
  next => exact h.elim
theorem zg_imul (hx : p.tables.exec = Jvm.exec) (hb : c.code = cc) (hd : decode cc pc = .ok (.imul, 1)) (h : zm_o ev (zm_G p l e R s m args below meth c Q D cl tc ad A nL L) v0 w0 (zm_xi2 (pc + 1) lv ws (fun x y => x * y) st)) : zm_G p l e R s m args below meth c Q D cl tc ad A nL L (pc, lv, st, ws) := by
  unfold zm_xi2 at h
  split at h
  next y x r =>
    intro H locs ls hL hP hD hS hn
    exact lv_imul hx hb hd (h.2 H locs ls hL hP hD hS hn)
  next => exact h.elim
theorem zg_iand (hx : p.tables.exec = Jvm.exec) (hb : c.code = cc) (hd : decode cc pc = .ok (.iand, 1)) (h : zm_o ev (zm_G p l e R s m args below meth c Q D cl tc ad A nL L) v0 w0 (zm_xi2 (pc + 1) lv ws (fun x y => x &&& y) st)) : zm_G p l e R s m args below meth c Q D cl tc ad A nL L (pc, lv, st, ws) := by
  unfold zm_xi2 at h
  split at h
  next y x r =>
    intro H locs ls hL hP hD hS hn
    exact lv_iand hx hb hd (h.2 H locs ls hL hP hD hS hn)
  next => exact h.elim
theorem zg_ishl (hx : p.tables.exec = Jvm.exec) (hb : c.code = cc) (hd : decode cc pc = .ok (.ishl, 1)) (h : zm_o ev (zm_G p l e R s m args below meth c Q D cl tc ad A nL L) v0 w0 (zm_xi2 (pc + 1) lv ws (fun x y => x <<< (y &&& 31)) st)) : zm_G p l e R s m args below meth c Q D cl tc ad A nL L (pc, lv, st, ws) := by
  unfold zm_xi2 at h
  split at h
  next y x r =>
    intro H locs ls hL hP hD hS hn
    exact lv_ishl hx hb hd (h.2 H locs ls hL hP hD hS hn)
  next => exact h.elim
theorem zg_idiv (hx : p.tables.exec = Jvm.exec) (hb : c.code = cc) (hd : decode cc pc = .ok (.idiv, 1)) (h : zm_o ev (zm_G p l e R s m args below meth c Q D cl tc ad A nL L) v0 w0 (zm_xd2 (pc + 1) lv ws (fun x y => x / y) st)) : zm_G p l e R s m args below meth c Q D cl tc ad A nL L (pc, lv, st, ws) := by
  unfold zm_xd2 at h
  split at h
  next y x r =>
    intro H locs ls hL hP hD hS hn
    exact lv_idiv hx hb hd h.1 (h.2 H locs ls hL hP hD hS hn)
  next => exact h.elim
theorem zg_irem (hx : p.tables.exec = Jvm.exec) (hb : c.code = cc) (hd : decode cc pc = .ok (.irem, 1)) (h : zm_o ev (zm_G p l e R s m args below meth c Q D cl tc ad A nL L) v0 w0 (zm_xd2 (pc + 1) lv ws (fun x y => x - x / y * y) st)) : zm_G p l e R s m args below meth c Q D cl tc ad A nL L (pc, lv, st, ws) := by
  unfold zm_xd2 at h
  split at h
  next y x r =>
    intro H locs ls hL hP hD hS hn
    exact lv_irem hx hb hd h.1 (h.2 H locs ls hL hP hD hS hn)
  next => exact h.elim
theorem zg_ladd (hx : p.tables.exec = Jvm.exec) (hb : c.code = cc) (hd : decode cc pc = .ok (.ladd, 1)) (h : zm_o ev (zm_G p l e R s m args below meth c Q D cl tc ad A nL L) v0 w0 (zm_xl2 (pc + 1) lv ws (fun x y => x + y) st)) : zm_G p l e R s m args below meth c Q D cl tc ad A nL L (pc, lv, st, ws) := by
  unfold zm_xl2 at h
  split at h
  next y x r =>
    intro H locs ls hL hP hD hS hn
    exact lv_ladd hx hb hd (h.2 H locs ls hL hP hD hS hn)
  next => exact h.elim
theorem zg_lsub (hx : p.tables.exec = Jvm.exec) (hb : c.code = cc) (hd : decode cc pc = .ok (.lsub, 1)) (h : zm_o ev (zm_G p l e R s m args below meth c Q D cl tc ad A nL L) v0 w0 (zm_xl2 (pc + 1) lv ws (fun x y => x - y) st)) : zm_G p l e R s m args below meth c Q D cl tc ad A nL L (pc, lv, st, ws) := by
  unfold zm_xl2 at h
  split at h
  next y x r =>
    intro H locs ls hL hP hD hS hn
    exact lv_lsub hx hb hd (h.2 H locs ls hL hP hD hS hn)
  next => exact h.elim
theorem zg_lmul (hx : p.tables.exec = Jvm.exec) (hb : c.code = cc) (hd : decode cc pc = .ok (.lmul, 1)) (h : zm_o ev (zm_G p l e R s m args below meth c Q D cl tc ad A nL L) v0 w0 (zm_xl2 (pc + 1) lv ws (fun x y => x * y) st)) : zm_G p l e R s m args below meth c Q D cl tc ad A nL L (pc, lv, st, ws) := by
  unfold zm_xl2 at h
  split at h
  next y x r =>
    intro H locs ls hL hP hD hS hn
    exact lv_lmul hx hb hd (h.2 H locs ls hL hP hD hS hn)
  next => exact h.elim
theorem zg_land (hx : p.tables.exec = Jvm.exec) (hb : c.code = cc) (hd : decode cc pc = .ok (.land, 1)) (h : zm_o ev (zm_G p l e R s m args below meth c Q D cl tc ad A nL L) v0 w0 (zm_xl2 (pc + 1) lv ws (fun x y => x &&& y) st)) : zm_G p l e R s m args below meth c Q D cl tc ad A nL L (pc, lv, st, ws) := by
  unfold zm_xl2 at h
  split at h
  next y x r =>
    intro H locs ls hL hP hD hS hn
    exact lv_land hx hb hd (h.2 H locs ls hL hP hD hS hn)
  next => exact h.elim
theorem zg_lor (hx : p.tables.exec = Jvm.exec) (hb : c.code = cc) (hd : decode cc pc = .ok (.lor, 1)) (h : zm_o ev (zm_G p l e R s m args below meth c Q D cl tc ad A nL L) v0 w0 (zm_xl2 (pc + 1) lv ws (fun x y => x ||| y) st)) : zm_G p l e R s m args below meth c Q D cl tc ad A nL L (pc, lv, st, ws) := by
  unfold zm_xl2 at h
  split at h
  next y x r =>
    intro H locs ls hL hP hD hS hn
    exact lv_lor hx hb hd (h.2 H locs ls hL hP hD hS hn)
  next => exact h.elim
theorem zg_lxor (hx : p.tables.exec = Jvm.exec) (hb : c.code = cc) (hd : decode cc pc = .ok (.lxor, 1)) (h : zm_o ev (zm_G p l e R s m args below meth c Q D cl tc ad A nL L) v0 w0 (zm_xl2 (pc + 1) lv ws (fun x y => x ^^^ y) st)) : zm_G p l e R s m args below meth c Q D cl tc ad A nL L (pc, lv, st, ws) := by
  unfold zm_xl2 at h
  split at h
  next y x r =>
    intro H locs ls hL hP hD hS hn
    exact lv_lxor hx hb hd (h.2 H locs ls hL hP hD hS hn)
  next => exact h.elim
theorem zg_ldiv (hx : p.tables.exec = Jvm.exec) (hb : c.code = cc) (hd : decode cc pc = .ok (.ldiv, 1)) (h : zm_o ev (zm_G p l e R s m args below meth c Q D cl tc ad A nL L) v0 w0 (zm_xm2 (pc + 1) lv ws (fun x y => x / y) st)) : zm_G p l e R s m args below meth c Q D cl tc ad A nL L (pc, lv, st, ws) := by
  unfold zm_xm2 at h
  split at h
  next y x r =>
    intro H locs ls hL hP hD hS hn
    exact lv_ldiv hx hb hd h.1 (h.2 H locs ls hL hP hD hS hn)
  next => exact h.elim
theorem zg_lrem (hx : p.tables.exec = Jvm.exec) (hb : c.code = cc) (hd : decode cc pc = .ok (.lrem, 1)) (h : zm_o ev (zm_G p l e R s m args below meth c Q D cl tc ad A nL L) v0 w0 (zm_xm2 (pc + 1) lv ws (fun x y => x - x / y * y) st)) : zm_G p l e R s m args below meth c Q D cl tc ad A nL L (pc, lv, st, ws) := by
  unfold zm_xm2 at h
  split at h
  next y x r =>
    intro H locs ls hL hP hD hS hn
    exact lv_lrem hx hb hd h.1 (h.2 H locs ls hL hP hD hS hn)
  next => exact h.elim
theorem zg_lshl (hx : p.tables.exec = Jvm.exec) (hb : c.code = cc) (hd : decode cc pc = .ok (.lshl, 1)) (h : zm_o ev (zm_G p l e R s m args below meth c Q D cl tc ad A nL L) v0 w0 (zm_xs2 (pc + 1) lv ws (fun x y => x <<< (y.toInt64 &&& 63)) st)) : zm_G p l e R s m args below meth c Q D cl tc ad A nL L (pc, lv, st, ws) := by
  unfold zm_xs2 at h
  split at h
  next y x r =>
    intro H locs ls hL hP hD hS hn
    exact lv_lshl hx hb hd rfl (h.2 H locs ls hL hP hD hS hn)
  next => exact h.elim
theorem zg_lshr (hx : p.tables.exec = Jvm.exec) (hb : c.code = cc) (hd : decode cc pc = .ok (.lshr, 1)) (h : zm_o ev (zm_G p l e R s m args below meth c Q D cl tc ad A nL L) v0 w0 (zm_xs2 (pc + 1) lv ws (fun x y => x >>> (y.toInt64 &&& 63)) st)) : zm_G p l e R s m args below meth c Q D cl tc ad A nL L (pc, lv, st, ws) := by
  unfold zm_xs2 at h
  split at h
  next y x r =>
    intro H locs ls hL hP hD hS hn
    exact lv_lshr hx hb hd rfl (h.2 H locs ls hL hP hD hS hn)
  next => exact h.elim
theorem zg_lushr (hx : p.tables.exec = Jvm.exec) (hb : c.code = cc) (hd : decode cc pc = .ok (.lushr, 1)) (h : zm_o ev (zm_G p l e R s m args below meth c Q D cl tc ad A nL L) v0 w0 (zm_xs2 (pc + 1) lv ws (fun x y => (x.toUInt64 >>> (y.toInt64.toUInt64 &&& Int64.toUInt64 63)).toInt64) st)) : zm_G p l e R s m args below meth c Q D cl tc ad A nL L (pc, lv, st, ws) := by
  unfold zm_xs2 at h
  split at h
  next y x r =>
    intro H locs ls hL hP hD hS hn
    exact lv_lushr hx hb hd rfl (h.2 H locs ls hL hP hD hS hn)
  next => exact h.elim
theorem zg_ineg (hx : p.tables.exec = Jvm.exec) (hb : c.code = cc) (hd : decode cc pc = .ok (.ineg, 1)) (h : zm_o ev (zm_G p l e R s m args below meth c Q D cl tc ad A nL L) v0 w0 (zm_x1 (pc + 1) lv ws (fun x => -x) st)) : zm_G p l e R s m args below meth c Q D cl tc ad A nL L (pc, lv, st, ws) := by
  unfold zm_x1 at h
  split at h
  next x r =>
    intro H locs ls hL hP hD hS hn
    exact lv_ineg hx hb hd (h.2 H locs ls hL hP hD hS hn)
  next => exact h.elim
theorem zg_lneg (hx : p.tables.exec = Jvm.exec) (hb : c.code = cc) (hd : decode cc pc = .ok (.lneg, 1)) (h : zm_o ev (zm_G p l e R s m args below meth c Q D cl tc ad A nL L) v0 w0 (zm_x1l (pc + 1) lv ws (fun x => -x) st)) : zm_G p l e R s m args below meth c Q D cl tc ad A nL L (pc, lv, st, ws) := by
  unfold zm_x1l at h
  split at h
  next x r =>
    intro H locs ls hL hP hD hS hn
    exact lv_lneg hx hb hd (h.2 H locs ls hL hP hD hS hn)
  next => exact h.elim
theorem zg_i2l (hx : p.tables.exec = Jvm.exec) (hb : c.code = cc) (hd : decode cc pc = .ok (.i2l, 1)) (h : zm_o ev (zm_G p l e R s m args below meth c Q D cl tc ad A nL L) v0 w0 (zm_xi2l (pc + 1) lv ws st)) : zm_G p l e R s m args below meth c Q D cl tc ad A nL L (pc, lv, st, ws) := by
  unfold zm_xi2l at h
  split at h
  next x r =>
    intro H locs ls hL hP hD hS hn
    exact lv_i2l hx hb hd rfl (h.2 H locs ls hL hP hD hS hn)
  next => exact h.elim
theorem zg_l2i (hx : p.tables.exec = Jvm.exec) (hb : c.code = cc) (hd : decode cc pc = .ok (.l2i, 1)) (h : zm_o ev (zm_G p l e R s m args below meth c Q D cl tc ad A nL L) v0 w0 (zm_xl2i (pc + 1) lv ws st)) : zm_G p l e R s m args below meth c Q D cl tc ad A nL L (pc, lv, st, ws) := by
  unfold zm_xl2i at h
  split at h
  next x r =>
    intro H locs ls hL hP hD hS hn
    exact lv_l2i hx hb hd rfl (h.2 H locs ls hL hP hD hS hn)
  next => exact h.elim
theorem zg_lcmp (hx : p.tables.exec = Jvm.exec) (hb : c.code = cc) (hd : decode cc pc = .ok (.lcmp, 1)) (h : zm_o ev (zm_G p l e R s m args below meth c Q D cl tc ad A nL L) v0 w0 (zm_xcmp (pc + 1) lv ws st)) : zm_G p l e R s m args below meth c Q D cl tc ad A nL L (pc, lv, st, ws) := by
  unfold zm_xcmp at h
  split at h
  next y x r =>
    intro H locs ls hL hP hD hS hn
    exact W.lcmp hx hb hd (h.2 H locs ls hL hP hD hS hn)
  next => exact h.elim
theorem zg_dup (hx : p.tables.exec = Jvm.exec) (hb : c.code = cc) (hd : decode cc pc = .ok (.dup, 1)) (h : zm_o ev (zm_G p l e R s m args below meth c Q D cl tc ad A nL L) v0 w0 (zm_dup (pc + 1) lv ws st)) : zm_G p l e R s m args below meth c Q D cl tc ad A nL L (pc, lv, st, ws) := by
  unfold zm_dup at h
  split at h
  next a r =>
    cases hc : Nat.beq a.category 1 with
    | true =>
      rw [hc] at h
      intro H locs ls hL hP hD hS hn
      exact lv_dup hx hb hd (by rw [zm_v_cat]; exact Nat.eq_of_beq_eq_true hc) (h.2 H locs ls hL hP hD hS hn)
    | false => rw [hc] at h; exact (show False from h).elim
  next => exact h.elim
theorem zg_dup2 (hx : p.tables.exec = Jvm.exec) (hb : c.code = cc) (hd : decode cc pc = .ok (.dup2, 1)) (h : zm_o ev (zm_G p l e R s m args below meth c Q D cl tc ad A nL L) v0 w0 (zm_dup2 (pc + 1) lv ws st)) : zm_G p l e R s m args below meth c Q D cl tc ad A nL L (pc, lv, st, ws) := by
  unfold zm_dup2 at h
  split at h
  next a b r =>
    cases hc : Nat.beq a.category 1 with
    | true =>
      rw [hc] at h
      cases hc2 : Nat.beq b.category 1 with
      | true =>
        rw [hc2] at h
        intro H locs ls hL hP hD hS hn
        exact lv_dup2_11 hx hb hd (by rw [zm_v_cat]; exact Nat.eq_of_beq_eq_true hc) (by rw [zm_v_cat]; exact Nat.eq_of_beq_eq_true hc2) (h.2 H locs ls hL hP hD hS hn)
      | false => rw [hc2] at h; exact (show False from h).elim
    | false => rw [hc] at h; exact (show False from h).elim
  next => exact h.elim
theorem zg_if_eq (hx : p.tables.exec = Jvm.exec) (hb : c.code = cc) (hd : decode cc pc = .ok (.ifCond .eq off, 3)) (ht : (pc : Int) + off = (u : Int)) (h : zm_o ev (zm_G p l e R s m args below meth c Q D cl tc ad A nL L) v0 w0 (zm_b1 (pc + 3) lv ws (fun x => x = 0) u st)) : zm_G p l e R s m args below meth c Q D cl tc ad A nL L (pc, lv, st, ws) := by
  unfold zm_b1 at h
  split at h
  next x r =>
    intro H locs ls hL hP hD hS hn
    exact lv_if_eq hx hb hd ht (fun hc => h.elim (fun q => q.2 H locs ls hL hP hD hS hn) (fun q => absurd hc q.1)) (fun hc => h.elim (fun q => absurd q.1 hc) (fun q => q.2 H locs ls hL hP hD hS hn))
  next => exact h.elim
theorem zg_if_lt (hx : p.tables.exec = Jvm.exec) (hb : c.code = cc) (hd : decode cc pc = .ok (.ifCond .lt off, 3)) (ht : (pc : Int) + off = (u : Int)) (h : zm_o ev (zm_G p l e R s m args below meth c Q D cl tc ad A nL L) v0 w0 (zm_b1 (pc + 3) lv ws (fun x => x < 0) u st)) : zm_G p l e R s m args below meth c Q D cl tc ad A nL L (pc, lv, st, ws) := by
  unfold zm_b1 at h
  split at h
  next x r =>
    intro H locs ls hL hP hD hS hn
    exact lv_if_lt hx hb hd ht (fun hc => h.elim (fun q => q.2 H locs ls hL hP hD hS hn) (fun q => absurd hc q.1)) (fun hc => h.elim (fun q => absurd q.1 hc) (fun q => q.2 H locs ls hL hP hD hS hn))
  next => exact h.elim
theorem zg_if_ge (hx : p.tables.exec = Jvm.exec) (hb : c.code = cc) (hd : decode cc pc = .ok (.ifCond .ge off, 3)) (ht : (pc : Int) + off = (u : Int)) (h : zm_o ev (zm_G p l e R s m args below meth c Q D cl tc ad A nL L) v0 w0 (zm_b1 (pc + 3) lv ws (fun x => 0 ≤ x) u st)) : zm_G p l e R s m args below meth c Q D cl tc ad A nL L (pc, lv, st, ws) := by
  unfold zm_b1 at h
  split at h
  next x r =>
    intro H locs ls hL hP hD hS hn
    exact lv_if_ge hx hb hd ht (fun hc => h.elim (fun q => q.2 H locs ls hL hP hD hS hn) (fun q => absurd hc q.1)) (fun hc => h.elim (fun q => absurd q.1 hc) (fun q => q.2 H locs ls hL hP hD hS hn))
  next => exact h.elim
theorem zg_if_gt (hx : p.tables.exec = Jvm.exec) (hb : c.code = cc) (hd : decode cc pc = .ok (.ifCond .gt off, 3)) (ht : (pc : Int) + off = (u : Int)) (h : zm_o ev (zm_G p l e R s m args below meth c Q D cl tc ad A nL L) v0 w0 (zm_b1 (pc + 3) lv ws (fun x => 0 < x) u st)) : zm_G p l e R s m args below meth c Q D cl tc ad A nL L (pc, lv, st, ws) := by
  unfold zm_b1 at h
  split at h
  next x r =>
    intro H locs ls hL hP hD hS hn
    exact lv_if_gt hx hb hd ht (fun hc => h.elim (fun q => q.2 H locs ls hL hP hD hS hn) (fun q => absurd hc q.1)) (fun hc => h.elim (fun q => absurd q.1 hc) (fun q => q.2 H locs ls hL hP hD hS hn))
  next => exact h.elim
theorem zg_if_le (hx : p.tables.exec = Jvm.exec) (hb : c.code = cc) (hd : decode cc pc = .ok (.ifCond .le off, 3)) (ht : (pc : Int) + off = (u : Int)) (h : zm_o ev (zm_G p l e R s m args below meth c Q D cl tc ad A nL L) v0 w0 (zm_b1 (pc + 3) lv ws (fun x => x ≤ 0) u st)) : zm_G p l e R s m args below meth c Q D cl tc ad A nL L (pc, lv, st, ws) := by
  unfold zm_b1 at h
  split at h
  next x r =>
    intro H locs ls hL hP hD hS hn
    exact lv_if_le hx hb hd ht (fun hc => h.elim (fun q => q.2 H locs ls hL hP hD hS hn) (fun q => absurd hc q.1)) (fun hc => h.elim (fun q => absurd q.1 hc) (fun q => q.2 H locs ls hL hP hD hS hn))
  next => exact h.elim
theorem zg_if_ne (hx : p.tables.exec = Jvm.exec) (hb : c.code = cc) (hd : decode cc pc = .ok (.ifCond .ne off, 3)) (ht : (pc : Int) + off = (u : Int)) (h : zm_o ev (zm_G p l e R s m args below meth c Q D cl tc ad A nL L) v0 w0 (zm_b1n (pc + 3) lv ws u st)) : zm_G p l e R s m args below meth c Q D cl tc ad A nL L (pc, lv, st, ws) := by
  unfold zm_b1n at h
  split at h
  next x r =>
    intro H locs ls hL hP hD hS hn
    exact lv_if_ne hx hb hd ht (fun hc => h.elim (fun q => absurd q.1 hc) (fun q => q.2 H locs ls hL hP hD hS hn)) (fun hc => h.elim (fun q => q.2 H locs ls hL hP hD hS hn) (fun q => absurd hc q.1))
  next => exact h.elim
theorem zg_icmp_eq (hx : p.tables.exec = Jvm.exec) (hb : c.code = cc) (hd : decode cc pc = .ok (.if_icmp .eq off, 3)) (ht : (pc : Int) + off = (u : Int)) (h : zm_o ev (zm_G p l e R s m args below meth c Q D cl tc ad A nL L) v0 w0 (zm_b2 (pc + 3) lv ws (fun x y => x = y) u st)) : zm_G p l e R s m args below meth c Q D cl tc ad A nL L (pc, lv, st, ws) := by
  unfold zm_b2 at h
  split at h
  next y x r =>
    intro H locs ls hL hP hD hS hn
    exact lv_icmp_eq hx hb hd ht (fun hc => h.elim (fun q => q.2 H locs ls hL hP hD hS hn) (fun q => absurd hc q.1)) (fun hc => h.elim (fun q => absurd q.1 hc) (fun q => q.2 H locs ls hL hP hD hS hn))
  next => exact h.elim
theorem zg_icmp_lt (hx : p.tables.exec = Jvm.exec) (hb : c.code = cc) (hd : decode cc pc = .ok (.if_icmp .lt off, 3)) (ht : (pc : Int) + off = (u : Int)) (h : zm_o ev (zm_G p l e R s m args below meth c Q D cl tc ad A nL L) v0 w0 (zm_b2 (pc + 3) lv ws (fun x y => x < y) u st)) : zm_G p l e R s m args below meth c Q D cl tc ad A nL L (pc, lv, st, ws) := by
  unfold zm_b2 at h
  split at h
  next y x r =>
    intro H locs ls hL hP hD hS hn
    exact lv_icmp_lt hx hb hd ht (fun hc => h.elim (fun q => q.2 H locs ls hL hP hD hS hn) (fun q => absurd hc q.1)) (fun hc => h.elim (fun q => absurd q.1 hc) (fun q => q.2 H locs ls hL hP hD hS hn))
  next => exact h.elim
theorem zg_icmp_ge (hx : p.tables.exec = Jvm.exec) (hb : c.code = cc) (hd : decode cc pc = .ok (.if_icmp .ge off, 3)) (ht : (pc : Int) + off = (u : Int)) (h : zm_o ev (zm_G p l e R s m args below meth c Q D cl tc ad A nL L) v0 w0 (zm_b2 (pc + 3) lv ws (fun x y => y ≤ x) u st)) : zm_G p l e R s m args below meth c Q D cl tc ad A nL L (pc, lv, st, ws) := by
  unfold zm_b2 at h
  split at h
  next y x r =>
    intro H locs ls hL hP hD hS hn
    exact lv_icmp_ge hx hb hd ht (fun hc => h.elim (fun q => q.2 H locs ls hL hP hD hS hn) (fun q => absurd hc q.1)) (fun hc => h.elim (fun q => absurd q.1 hc) (fun q => q.2 H locs ls hL hP hD hS hn))
  next => exact h.elim
theorem zg_icmp_gt (hx : p.tables.exec = Jvm.exec) (hb : c.code = cc) (hd : decode cc pc = .ok (.if_icmp .gt off, 3)) (ht : (pc : Int) + off = (u : Int)) (h : zm_o ev (zm_G p l e R s m args below meth c Q D cl tc ad A nL L) v0 w0 (zm_b2 (pc + 3) lv ws (fun x y => y < x) u st)) : zm_G p l e R s m args below meth c Q D cl tc ad A nL L (pc, lv, st, ws) := by
  unfold zm_b2 at h
  split at h
  next y x r =>
    intro H locs ls hL hP hD hS hn
    exact lv_icmp_gt hx hb hd ht (fun hc => h.elim (fun q => q.2 H locs ls hL hP hD hS hn) (fun q => absurd hc q.1)) (fun hc => h.elim (fun q => absurd q.1 hc) (fun q => q.2 H locs ls hL hP hD hS hn))
  next => exact h.elim
theorem zg_icmp_le (hx : p.tables.exec = Jvm.exec) (hb : c.code = cc) (hd : decode cc pc = .ok (.if_icmp .le off, 3)) (ht : (pc : Int) + off = (u : Int)) (h : zm_o ev (zm_G p l e R s m args below meth c Q D cl tc ad A nL L) v0 w0 (zm_b2 (pc + 3) lv ws (fun x y => x ≤ y) u st)) : zm_G p l e R s m args below meth c Q D cl tc ad A nL L (pc, lv, st, ws) := by
  unfold zm_b2 at h
  split at h
  next y x r =>
    intro H locs ls hL hP hD hS hn
    exact lv_icmp_le hx hb hd ht (fun hc => h.elim (fun q => q.2 H locs ls hL hP hD hS hn) (fun q => absurd hc q.1)) (fun hc => h.elim (fun q => absurd q.1 hc) (fun q => q.2 H locs ls hL hP hD hS hn))
  next => exact h.elim
theorem zg_icmp_ne (hx : p.tables.exec = Jvm.exec) (hb : c.code = cc) (hd : decode cc pc = .ok (.if_icmp .ne off, 3)) (ht : (pc : Int) + off = (u : Int)) (h : zm_o ev (zm_G p l e R s m args below meth c Q D cl tc ad A nL L) v0 w0 (zm_b2n (pc + 3) lv ws u st)) : zm_G p l e R s m args below meth c Q D cl tc ad A nL L (pc, lv, st, ws) := by
  unfold zm_b2n at h
  split at h
  next y x r =>
    intro H locs ls hL hP hD hS hn
    exact lv_icmp_ne hx hb hd ht (fun hc => h.elim (fun q => absurd q.1 hc) (fun q => q.2 H locs ls hL hP hD hS hn)) (fun hc => h.elim (fun q => q.2 H locs ls hL hP hD hS hn) (fun q => absurd hc q.1))
  next => exact h.elim
theorem zg_goto (hx : p.tables.exec = Jvm.exec) (hb : c.code = cc) (hd : decode cc pc = .ok (.goto off, 3)) (ht : (pc : Int) + off = (u : Int)) (h : zm_o ev (zm_G p l e R s m args below meth c Q D cl tc ad A nL L) v0 w0 (zm_r0 (u, lv, st, ws))) : zm_G p l e R s m args below meth c Q D cl tc ad A nL L (pc, lv, st, ws) := by
  intro H locs ls hL hP hD hS hn
  exact lv_goto hx hb hd ht (h.2 H locs ls hL hP hD hS hn)
theorem zg_switch (hx : p.tables.exec = Jvm.exec) (hb : c.code = cc) (hd : decode cc pc = .ok (.tableswitch d lo hi offs, len)) (ht : 0 ≤ (pc : Int) + d ∧ ∀ i : Nat, (i : Int) ≤ hi - lo → ∃ off, offs[i]? = some off ∧ 0 ≤ (pc : Int) + off) (h : zm_o ev (zm_G p l e R s m args below meth c Q D cl tc ad A nL L) v0 w0 (zm_xsw lv ws pc d lo hi offs st)) : zm_G p l e R s m args below meth c Q D cl tc ad A nL L (pc, lv, st, ws) := by
  unfold zm_xsw at h
  split at h
  next x r =>
    intro H locs ls hL hP hD hS hn
    have h2 := h.2 H locs ls hL hP hD hS hn
    by_cases hc : x.toInt < lo ∨ hi < x.toInt
    · rw [show zm_sw pc d lo hi offs x = ((pc : Int) + d).toNat from if_pos hc] at h2
      exact lv_tableOut hx hb hd hc (Int.toNat_of_nonneg ht.1).symm h2
    · have a1 : ¬ x.toInt < lo := fun q => hc (Or.inl q)
      have a2 : ¬ hi < x.toInt := fun q => hc (Or.inr q)
      obtain ⟨off, ho, h0⟩ := ht.2 (x.toInt - lo).toNat (by omega)
      have e1 : zm_sw pc d lo hi offs x = ((pc : Int) + off).toNat := by
        rw [show zm_sw pc d lo hi offs x = ((pc : Int) + (offs[(x.toInt - lo).toNat]?).getD 0).toNat from if_neg hc, ho]
        rfl
      rw [e1] at h2
      exact lv_tableIn hx hb hd a1 a2 ho (Int.toNat_of_nonneg h0).symm h2
  next => exact h.elim
theorem zg_get (hx : p.tables.exec = Jvm.exec) (hb : c.code = cc) (hts : ∀ x ∈ Ts, x.before args s = true) (hNw : ∀ x ∈ nw, va_Nw x s) (hown : s.vm.findClass own = some m.cls) (hK : va_K D cl (zm_tys tc) s) (hd : decode cc pc = .ok (.getfield idx, 3)) (hF : zm_okF cl Ts nw own idx u w) (h : zm_o ev (zm_G p l e R s m args below meth c Q D cl tc ad A nL L) v0 w0 (zm_gf (pc + 3) lv ws u w st)) : zm_G p l e R s m args below meth c Q D cl tc ad A nL L (pc, lv, st, ws) := by
  unfold zm_gf at h
  split at h
  next a r =>
    rcases hq : zm_n ws a with _ | ⟨x | ⟨ci, fs⟩⟩
    · rw [hq] at h; exact (show False from h).elim
    · rw [hq] at h; exact (show False from h).elim
    · rw [hq] at h
      cases hc : Nat.beq ci u with
      | false => simp only [zm_xget, hc] at h; exact (show False from h).elim
      | true =>
        simp only [zm_xget, hc] at h
        have hcu := Nat.eq_of_beq_eq_true hc
        subst hcu
        rcases hv : zm_n fs w with _ | v
        · rw [hv] at h; exact (show False from h).elim
        · rw [hv] at h
          have h2 : True ∧ zm_G p l e R s m args below meth c Q D cl tc ad A nL L (pc + 3, lv, v :: r, ws) := h
          obtain ⟨C, T, N, h3, h4, h5, h6⟩ := hF
          have hv2 : (fs.map (zm_v ad))[w]? = some (zm_v ad v) := by rw [List.getElem?_map, ← zm_n_eq, hv]; rfl
          intro H locs ls hL hP hD hS hn
          rcases h6 with h6 | ⟨host, h6⟩
          · exact va_get hx hb hts h4 hown hK hP a (zm_w_at hq) h3 w h5 (hts _ h6) (fun _ h9 => h9) hv2 hd (h2.2 H locs ls hL hP hD hS hn)
          · exact va_getN hx hb hts h4 hown hK hP a (zm_w_at hq) h3 w h5 (va_Nw.use rfl (hNw _ h6)) (fun _ h9 => h9) hv2 hd (h2.2 H locs ls hL hP hD hS hn)
  next => exact h.elim
theorem zg_put1 (hx : p.tables.exec = Jvm.exec) (hb : c.code = cc) (hts : ∀ x ∈ Ts, x.before args s = true) (hNw : ∀ x ∈ nw, va_Nw x s) (hown : s.vm.findClass own = some m.cls) (hK : va_K D cl (zm_tys tc) s) (hd : decode cc pc = .ok (.putfield idx, 3)) (hF : zm_okP cl Ts nw own idx u w ty) {a : Nat} {r : List Value} {v : Value} {P : Option Prop} (hn1 : zm_c P → narrow ty (zm_v ad v) = zm_v ad v ∧ fits ty (zm_v ad v) = true) (h : zm_o ev (zm_G p l e R s m args below meth c Q D cl tc ad A nL L) v0 w0 (zm_xput (pc + 3) lv ws a r u w v P (zm_n ws a))) : zm_G p l e R s m args below meth c Q D cl tc ad A nL L (pc, lv, v :: .ref a :: r, ws) := by
  rcases hq : zm_n ws a with _ | ⟨x | ⟨ci, fs⟩⟩
  · rw [hq] at h; exact (show False from h).elim
  · rw [hq] at h; exact (show False from h).elim
  · rw [hq] at h
    cases hc : Nat.beq ci u with
    | false => simp only [zm_xput, hc] at h; exact (show False from h).elim
    | true =>
      simp only [zm_xput, hc] at h
      have hcu := Nat.eq_of_beq_eq_true hc
      subst hcu
      cases hv : Nat.ble (w + 1) fs.length with
      | false => rw [hv] at h; exact (show False from h).elim
      | true =>
        rw [hv] at h
        have h2 : zm_c P ∧ zm_G p l e R s m args below meth c Q D cl tc ad A nL L (pc + 3, lv, r, ws.set a (.inr (ci, fs.set w v))) := h
        obtain ⟨⟨C, T, N, h3, h4, h5, h6⟩, C', T', N', h3', ty0, h7, h8, h9, h10⟩ := hF
        have e1 := h3.symm.trans h3'
        cases e1
        have hlen : w < (fs.map (zm_v ad)).length := by rw [List.length_map]; exact Nat.le_of_ble_eq_true hv
        have hset : ∀ H1 : Heap, va_P D cl ((zm_w tc ad 0 ws).set a (ad a, .inr (ci, (fs.map (zm_v ad)).set w (zm_v ad v)))) H1 → va_P D cl (zm_w tc ad 0 (ws.set a (.inr (ci, fs.set w v)))) H1 := by
          intro H1 h
          rw [← zm_w_set0]
          show va_P D cl ((zm_w tc ad 0 ws).set a (ad a, .inr (ci, (fs.set w v).map (zm_v ad)))) H1
          rw [List.map_set]
          exact h
        have hset2 : va_D A ((zm_w tc ad 0 ws).set a (ad a, .inr (ci, (fs.map (zm_v ad)).set w (zm_v ad v)))) → va_D A (zm_w tc ad 0 (ws.set a (.inr (ci, fs.set w v)))) := by
          intro h
          rw [← zm_w_set0]
          show va_D A ((zm_w tc ad 0 ws).set a (ad a, .inr (ci, (fs.set w v).map (zm_v ad))))
          rw [List.map_set]
          exact h
        intro H locs ls hL hP hD hS hn
        obtain ⟨n1, n2⟩ := hn1 h2.1
        rcases h6 with h6 | ⟨host, h6⟩
        · exact va_put hx hb hts h4 ty0 h7 h8 hown hK hP hD hS a (zm_w_at hq) h3 w h5 (hts _ h6) (fun _ h9 => h9) h9 h10 n1 n2 hlen hd (fun H1 locs1 hP1 hD1 hS1 => h2.2 H1 locs1 ls hL (hset H1 hP1) (hset2 hD1) hS1 (by rw [← hn]; exact List.length_set))
        · exact va_putN hx hb hts h4 ty0 h7 h8 hown hK hP hD hS a (zm_w_at hq) h3 w h5 (va_Nw.use rfl (hNw _ h6)) (fun _ h9 => h9) h9 h10 n1 n2 hlen hd (fun H1 locs1 hP1 hD1 hS1 => h2.2 H1 locs1 ls hL (hset H1 hP1) (hset2 hD1) hS1 (by rw [← hn]; exact List.length_set))
theorem zg_put (hx : p.tables.exec = Jvm.exec) (hb : c.code = cc) (hts : ∀ x ∈ Ts, x.before args s = true) (hNw : ∀ x ∈ nw, va_Nw x s) (hown : s.vm.findClass own = some m.cls) (hK : va_K D cl (zm_tys tc) s) (hd : decode cc pc = .ok (.putfield idx, 3)) (hF : zm_okP cl Ts nw own idx u w (zm_ft z)) (h : zm_o ev (zm_G p l e R s m args below meth c Q D cl tc ad A nL L) v0 w0 (zm_xput0 (pc + 3) lv ws u w z st)) : zm_G p l e R s m args below meth c Q D cl tc ad A nL L (pc, lv, st, ws) := by
  unfold zm_xput0 at h
  split at h
  next x a r =>
    rcases z with _ | _ | _ | z
    · exact zg_put1 hx hb hts hNw hown hK hd hF (P := none) (fun _ => ⟨rfl, rfl⟩) h
    · exact (show False from h).elim
    · refine zg_put1 hx hb hts hNw hown hK hd hF (P := some (x = 0 ∨ x = 1)) (fun q => ?_) h
      rcases (show x = 0 ∨ x = 1 from q) with rfl | rfl
      · exact ⟨show narrow .boolean (.int 0) = .int 0 by decide, show fits .boolean (.int 0) = true by decide⟩
      · exact ⟨show narrow .boolean (.int 1) = .int 1 by decide, show fits .boolean (.int 1) = true by decide⟩
    · exact (show False from h).elim
  next x a r =>
    rcases z with _ | _ | z
    · exact (show False from h).elim
    · exact zg_put1 hx hb hts hNw hown hK hd hF (P := none) (fun _ => ⟨rfl, rfl⟩) h
    · exact (show False from h).elim
  next => exact h.elim
theorem zg_iaload (hx : p.tables.exec = Jvm.exec) (hb : c.code = cc) (hK : va_K D cl (zm_tys tc) s) (hd : decode cc pc = .ok (.iaload, 1)) (h : zm_o ev (zm_G p l e R s m args below meth c Q D cl tc ad A nL L) v0 w0 (zm_al (pc + 1) lv ws 0 st)) : zm_G p l e R s m args below meth c Q D cl tc ad A nL L (pc, lv, st, ws) := by
  unfold zm_al at h
  split at h
  next i a r =>
    rcases hq : zm_n ws a with _ | ⟨⟨k, n, f | f⟩ | x⟩
    · rw [hq] at h; exact (show False from h).elim
    · rw [hq] at h
      cases hc : Nat.beq k 0 with
      | false => simp only [zm_xald, hc] at h; exact (show False from h).elim
      | true =>
        simp only [zm_xald, hc] at h
        have hcu := Nat.eq_of_beq_eq_true hc
        subst hcu
        have h2 : vp_in i n ∧ zm_G p l e R s m args below meth c Q D cl tc ad A nL L (pc + 1, lv, .int (f i.toNatClampNeg) :: r, ws) := h
        intro H locs ls hL hP hD hS hn
        exact va_iald hx hb hK hP a 0 (zm_w_at hq) rfl h2.1 hd (h2.2 H locs ls hL hP hD hS hn)
    · rw [hq] at h; exact (show False from h).elim
    · rw [hq] at h; exact (show False from h).elim
  next => exact h.elim
theorem zg_baload (hx : p.tables.exec = Jvm.exec) (hb : c.code = cc) (hK : va_K D cl (zm_tys tc) s) (hd : decode cc pc = .ok (.baload, 1)) (h : zm_o ev (zm_G p l e R s m args below meth c Q D cl tc ad A nL L) v0 w0 (zm_al (pc + 1) lv ws 2 st)) : zm_G p l e R s m args below meth c Q D cl tc ad A nL L (pc, lv, st, ws) := by
  unfold zm_al at h
  split at h
  next i a r =>
    rcases hq : zm_n ws a with _ | ⟨⟨k, n, f | f⟩ | x⟩
    · rw [hq] at h; exact (show False from h).elim
    · rw [hq] at h
      cases hc : Nat.beq k 2 with
      | false => simp only [zm_xald, hc] at h; exact (show False from h).elim
      | true =>
        simp only [zm_xald, hc] at h
        have hcu := Nat.eq_of_beq_eq_true hc
        subst hcu
        have h2 : vp_in i n ∧ zm_G p l e R s m args below meth c Q D cl tc ad A nL L (pc + 1, lv, .int (f i.toNatClampNeg) :: r, ws) := h
        intro H locs ls hL hP hD hS hn
        exact va_zald hx hb hK hP a 2 (zm_w_at hq) rfl h2.1 hd (h2.2 H locs ls hL hP hD hS hn)
    · rw [hq] at h; exact (show False from h).elim
    · rw [hq] at h; exact (show False from h).elim
  next => exact h.elim
theorem zg_laload (hx : p.tables.exec = Jvm.exec) (hb : c.code = cc) (hK : va_K D cl (zm_tys tc) s) (hd : decode cc pc = .ok (.laload, 1)) (h : zm_o ev (zm_G p l e R s m args below meth c Q D cl tc ad A nL L) v0 w0 (zm_lal (pc + 1) lv ws st)) : zm_G p l e R s m args below meth c Q D cl tc ad A nL L (pc, lv, st, ws) := by
  unfold zm_lal at h
  split at h
  next i a r =>
    rcases hq : zm_n ws a with _ | ⟨⟨k, n, f | f | f⟩ | x⟩
    · rw [hq] at h; exact (show False from h).elim
    · rw [hq] at h; exact (show False from h).elim
    · rw [hq] at h
      cases hc : Nat.beq k 1 with
      | false => simp only [zm_xlald, hc] at h; exact (show False from h).elim
      | true =>
        simp only [zm_xlald, hc] at h
        have hcu := Nat.eq_of_beq_eq_true hc
        subst hcu
        have h2 : vp_in i n ∧ zm_G p l e R s m args below meth c Q D cl tc ad A nL L (pc + 1, lv, .long (f i.toNatClampNeg) :: r, ws) := h
        intro H locs ls hL hP hD hS hn
        exact va_lald hx hb hK hP a 1 (zm_w_at hq) rfl h2.1 hd (h2.2 H locs ls hL hP hD hS hn)
    · rw [hq] at h; exact (show False from h).elim
    · rw [hq] at h; exact (show False from h).elim
  next => exact h.elim
theorem zg_iastore (hx : p.tables.exec = Jvm.exec) (hb : c.code = cc) (hK : va_K D cl (zm_tys tc) s) (hd : decode cc pc = .ok (.iastore, 1)) (h : zm_o ev (zm_G p l e R s m args below meth c Q D cl tc ad A nL L) v0 w0 (zm_as (pc + 1) lv ws 0 (fun x => x) st)) : zm_G p l e R s m args below meth c Q D cl tc ad A nL L (pc, lv, st, ws) := by
  unfold zm_as at h
  split at h
  next x i a r =>
    rcases hq : zm_n ws a with _ | ⟨⟨k, n, f | f⟩ | y⟩
    · rw [hq] at h; exact (show False from h).elim
    · rw [hq] at h
      cases hc : Nat.beq k 0 with
      | false => simp only [zm_xast, hc] at h; exact (show False from h).elim
      | true =>
        simp only [zm_xast, hc] at h
        have hcu := Nat.eq_of_beq_eq_true hc
        subst hcu
        have h2 : vp_in i n ∧ zm_G p l e R s m args below meth c Q D cl tc ad A nL L (pc + 1, lv, r, ws.set a (.inl (0, n, .inl (upd f i.toNatClampNeg x)))) := h
        intro H locs ls hL hP hD hS hn
        exact va_iast hx hb hK hP hD hS a 0 (zm_w_at hq) rfl h2.1 hd (fun H1 locs1 hP1 hD1 hS1 => h2.2 H1 locs1 ls hL (by rw [← zm_w_set0]; exact hP1) (by rw [← zm_w_set0]; exact hD1) hS1 (by rw [← hn]; exact List.length_set))
    · rw [hq] at h; exact (show False from h).elim
    · rw [hq] at h; exact (show False from h).elim
  next => exact h.elim
theorem zg_bastore (hx : p.tables.exec = Jvm.exec) (hb : c.code = cc) (hK : va_K D cl (zm_tys tc) s) (hd : decode cc pc = .ok (.bastore, 1)) (h : zm_o ev (zm_G p l e R s m args below meth c Q D cl tc ad A nL L) v0 w0 (zm_as (pc + 1) lv ws 2 (vp_nar .boolean) st)) : zm_G p l e R s m args below meth c Q D cl tc ad A nL L (pc, lv, st, ws) := by
  unfold zm_as at h
  split at h
  next x i a r =>
    rcases hq : zm_n ws a with _ | ⟨⟨k, n, f | f⟩ | y⟩
    · rw [hq] at h; exact (show False from h).elim
    · rw [hq] at h
      cases hc : Nat.beq k 2 with
      | false => simp only [zm_xast, hc] at h; exact (show False from h).elim
      | true =>
        simp only [zm_xast, hc] at h
        have hcu := Nat.eq_of_beq_eq_true hc
        subst hcu
        have h2 : vp_in i n ∧ zm_G p l e R s m args below meth c Q D cl tc ad A nL L (pc + 1, lv, r, ws.set a (.inl (2, n, .inl (upd f i.toNatClampNeg (vp_nar .boolean x))))) := h
        intro H locs ls hL hP hD hS hn
        exact va_zast hx hb hK hP hD hS a 2 (zm_w_at hq) rfl h2.1 hd (fun H1 locs1 hP1 hD1 hS1 => h2.2 H1 locs1 ls hL (by rw [← zm_w_set0]; exact hP1) (by rw [← zm_w_set0]; exact hD1) hS1 (by rw [← hn]; exact List.length_set))
    · rw [hq] at h; exact (show False from h).elim
    · rw [hq] at h; exact (show False from h).elim
  next => exact h.elim
theorem zg_lastore (hx : p.tables.exec = Jvm.exec) (hb : c.code = cc) (hK : va_K D cl (zm_tys tc) s) (hd : decode cc pc = .ok (.lastore, 1)) (h : zm_o ev (zm_G p l e R s m args below meth c Q D cl tc ad A nL L) v0 w0 (zm_las (pc + 1) lv ws st)) : zm_G p l e R s m args below meth c Q D cl tc ad A nL L (pc, lv, st, ws) := by
  unfold zm_las at h
  split at h
  next x i a r =>
    rcases hq : zm_n ws a with _ | ⟨⟨k, n, f | f | f⟩ | y⟩
    · rw [hq] at h; exact (show False from h).elim
    · rw [hq] at h; exact (show False from h).elim
    · rw [hq] at h
      cases hc : Nat.beq k 1 with
      | false => simp only [zm_xlast, hc] at h; exact (show False from h).elim
      | true =>
        simp only [zm_xlast, hc] at h
        have hcu := Nat.eq_of_beq_eq_true hc
        subst hcu
        have h2 : vp_in i n ∧ zm_G p l e R s m args below meth c Q D cl tc ad A nL L (pc + 1, lv, r, ws.set a (.inl (1, n, .inr (.inl (vp_updL f i.toNatClampNeg x))))) := h
        intro H locs ls hL hP hD hS hn
        exact va_last hx hb hK hP hD hS a 1 (zm_w_at hq) rfl h2.1 hd (fun H1 locs1 hP1 hD1 hS1 => h2.2 H1 locs1 ls hL (by rw [← zm_w_set0]; exact hP1) (by rw [← zm_w_set0]; exact hD1) hS1 (by rw [← hn]; exact List.length_set))
    · rw [hq] at h; exact (show False from h).elim
    · rw [hq] at h; exact (show False from h).elim
  next => exact h.elim
end ZMG
end
section
/-! Calls, answers, the whole: what our machine does, the JVM does. -/
def zm_nest (x : Jvm.Cond) : Prop := (∃ (a : String) (i : Nat) (b n d h : String), x = .fieldLinkNest a i b n d h) ∨ ∃ (a : String) (i : Nat) (y : MethodName) (h : String), x = .methodLinkNest a i y h
theorem zm_nw_warm {nw : List Jvm.Cond} {s U : State} (hn : ∀ x ∈ nw, zm_nest x) (hW : s.WarmedH U.vm) (h : ∀ x ∈ nw, va_Nw x s) : ∀ x ∈ nw, va_Nw x U := by
  intro x hx
  have h1 := h x hx
  rcases hn x hx with ⟨a, i, b, n, d, g, rfl⟩ | ⟨a, i, y, g, rfl⟩
  · exact va_Nw.warmF hW h1
  · exact va_Nw.warmM hW h1
theorem zm_nw_same {nw : List Jvm.Cond} {s U : State} (hn : ∀ x ∈ nw, zm_nest x) (hW : s.vm = U.vm) (h : ∀ x ∈ nw, va_Nw x s) : ∀ x ∈ nw, va_Nw x U := by
  intro x hx
  have h1 := h x hx
  rcases hn x hx with ⟨a, i, b, n, d, g, rfl⟩ | ⟨a, i, y, g, rfl⟩
  · exact va_Nw.same rfl hW h1
  · exact va_Nw.same rfl hW h1
def zm_Pc (D : va_G) (cl : List vw_C) (tc : Nat → ClassId) (ad : Nat → Nat) (nw : List Jvm.Cond) (as : List Value) (ws : List zm_E) (sz : Nat) : Array Value → State → Prop :=
  va_Pc (as.map (zm_v ad)) (fun U => U.heap.size = sz ∧ va_P D cl (zm_w tc ad 0 ws) U.heap ∧ va_K D cl (zm_tys tc) U ∧ va_D (fun _ => True) (zm_w tc ad 0 ws) ∧ ∀ x ∈ nw, va_Nw x U)
def zm_Qc (D : va_G) (cl : List vw_C) (tc : Nat → ClassId) (ad : Nat → Nat) (ws : List zm_E) (v : Option Value) (w : List zm_E) (sz : Nat) : Array Value → State → Outcome → State → Prop :=
  fun _ st oc t => (oc = .returned (v.map (zm_v ad)) ∧ va_P D cl (zm_w tc ad 0 w) t.heap ∧ w.length = ws.length) ∧ va_F (va_A (zm_w tc ad 0 ws) sz) st t
def zm_rm (d : Nat) : Room := { frames := d, cells := 0, slots := 0, locals := 60 * d }
def zm_ws (gw : List Jvm.Cond) (M : zm_M) : List Jvm.Cond := .code M.1 M.2.1 M.2.2.1 M.2.2.2.1 :: gw
def zm_okM (cl : List vw_C) (gw : List Jvm.Cond) (M : zm_M) : Prop := plainName M.1.cls = true ∧ Jvm.Cond.code M.1 M.2.1 M.2.2.1 M.2.2.2.1 ∈ gw ∧ Jvm.Cond.initialized M.1.cls ∈ gw ∧ (M.1.cls ≠ "java/lang/invoke/MethodHandle" ∧ M.1.cls ≠ "java/lang/invoke/VarHandle") ∧ (parseMethodDescriptor M.1.desc).map (fun d => d.parameters.length) = some M.2.2.2.2.1 ∧ M.2.2.1 ≤ 41 ∧ (M.2.2.2.2.2.1 = true → Jvm.Cond.static M.1 ∈ gw) ∧ (M.2.2.2.2.2.1 = false → Jvm.Cond.instanceMethod M.1 ∈ gw ∧ Jvm.Cond.selects M.1.cls M.1 M.1 ∈ gw ∧ ∃ (T : u_T) (N : Nat), cl[M.2.2.2.2.2.2.1]? = some (M.1.cls, T, N))
def zm_okG (get : Nat → Option zm_M) (gw nw : List Jvm.Cond) (own : String) (idx u w z : Nat) (b : Bool) : Prop := ∃ M', get u = some M' ∧ (Jvm.Cond.methodLink own idx M'.1 ∈ gw ∨ ∃ host, Jvm.Cond.methodLinkNest own idx M'.1 host ∈ nw) ∧ M'.2.2.2.2.1 = w ∧ M'.2.2.2.2.2.1 = b ∧ (b = false → M'.2.2.2.2.2.2.1 = z)
def zm_goodL (gw : List Jvm.Cond) : Prop := ∀ x ∈ gw, (x.onTables && x.keeps) = true ∨ ∃ ty, x = .arrayClass ty
theorem zm_goodIn {gw : List Jvm.Cond} {M : zm_M} (hg : zm_goodL gw) (hc : Jvm.Cond.code M.1 M.2.1 M.2.2.1 M.2.2.2.1 ∈ gw) : GoodIn gw (zm_ws gw M) := by
  intro x hx
  rcases List.mem_cons.mp hx with rfl | hx
  · exact ⟨hc, hg _ hc⟩
  · exact ⟨hx, hg _ hx⟩
theorem zm_w_len (tc : Nat → ClassId) (ad : Nat → Nat) (ws : List zm_E) (i : Nat) : (zm_w tc ad i ws).length = ws.length := by
  induction ws generalizing i with
  | nil => rfl
  | cons x l ih => simp [zm_w, ih]
/-- the addresses alone -/
theorem zm_w_ad {tc : Nat → ClassId} {ad : Nat → Nat} {ws : List zm_E} {a : Nat} {q : Nat × va_E} (h : (zm_w tc ad 0 ws)[a]? = some q) : a < ws.length ∧ q.1 = ad a := by
  have h0 := h
  rw [zm_w_get] at h
  cases hq : zm_n ws a with
  | none => rw [hq] at h; cases h
  | some x =>
    rw [hq, Nat.zero_add] at h
    cases h
    refine ⟨?_, rfl⟩
    have := (List.getElem?_eq_some_iff.mp h0).1
    rwa [zm_w_len] at this
theorem zm_w_ex {tc : Nat → ClassId} {ad : Nat → Nat} {ws : List zm_E} {a : Nat} (h : a < ws.length) : ∃ x, (zm_w tc ad 0 ws)[a]? = some (ad a, x) := by
  have h1 : a < (zm_w tc ad 0 ws).length := by rw [zm_w_len]; exact h
  have h2 := List.getElem?_eq_getElem h1
  obtain ⟨-, h3⟩ := zm_w_ad h2
  exact ⟨(zm_w tc ad 0 ws)[a].2, by rw [h2, ← h3]⟩
theorem zm_D_len {tc : Nat → ClassId} {ad : Nat → Nat} {A : Nat → Prop} {ws w : List zm_E} (h : va_D A (zm_w tc ad 0 ws)) (hl : w.length = ws.length) : va_D A (zm_w tc ad 0 w) := by
  refine ⟨fun i j p q hi hj e => ?_, fun k q hk => ?_⟩
  · obtain ⟨h1, h2⟩ := zm_w_ad hi
    obtain ⟨h3, h4⟩ := zm_w_ad hj
    obtain ⟨x, hx⟩ := zm_w_ex (tc := tc) (ad := ad) (show i < ws.length by omega)
    obtain ⟨y, hy⟩ := zm_w_ex (tc := tc) (ad := ad) (show j < ws.length by omega)
    exact h.1 i j _ _ hx hy (by rw [← h2, ← h4]; exact e)
  · obtain ⟨h1, h2⟩ := zm_w_ad hk
    obtain ⟨x, hx⟩ := zm_w_ex (tc := tc) (ad := ad) (show k < ws.length by omega)
    rw [h2]
    exact h.2 k _ hx
section ZMC
variable {p : Program} {l : Launch} {e : Env} {R : Room} {s : State} {m : MethodId} {args : Array Value} {below : List Frame} {meth : Method} {c : Code} {Q : State → Prop} {D : va_G} {cl : List vw_C} {tc : Nat → ClassId} {ad : Nat → Nat} {A : Nat → Prop} {nL L : Nat}
variable {cc : ByteArray} {pc : Nat} {lv : List (Option Value)} {st : List Value} {ws : List zm_E} {ev : Nat → List Value → List zm_E → Option Value → List zm_E → Prop} {v0 : Option Value} {w0 : List zm_E}
variable {k off lo hi : Int} {offs : Array Int} {kf : Fin 2} {kk : Fin 4} {u w z idx len d : Nat} {x y : Int32} {xl : Int64} {own : String} {gw nw : List Jvm.Cond} {ty : FieldType} {get : Nat → Option zm_M} {H : Heap} {locs : List Loc}
theorem zm_callg {mc ms : Nat} {ls : Array Slot} {st0 rest : List Value} {Qa : State → Outcome → State → Prop} {free : Addr → Prop} (hr : va_Run p l e R s m args below meth c H locs 0 0 0 0 (F0 m pc ls st0) rest Qa free)
    (kk : ∀ (v : Option Value) (st₀ t : State) (H1 : Heap) (locs1 : List Loc), st₀.heap = H → t.heap = H1 → Qa st₀ (.returned v) t → (∀ q ∈ locs1, q ∈ locs ∨ free q.base) → W p l e R s m args below meth c H1 locs1 0 0 Q (F0 m (pc + 3) ls (v.toList ++ rest))) : W p l e R s m args below meth c H locs 0 0 Q (F0 m pc ls st0) := by
  intro T hT X
  obtain ⟨v, st₀, t, T', L, h0, X', hL, e1, e2, hq, st⟩ := hr T hT X
  obtain ⟨t2, a1, b1⟩ := kk v st₀ t T'.heap (locs ++ L) h0 e1.symm hq (fun q hq => by
      rcases List.mem_append.mp hq with h | h
      · exact Or.inl h
      · exact Or.inr (hL q h)) T' rfl X'
  exact ⟨t2, st t2 a1, b1⟩
theorem zm_blind {as : List Value} {sz : Nat} (hnest : ∀ x ∈ nw, zm_nest x) : FrameBlind (zm_Pc D cl tc ad nw as ws sz) := by
  intro a U g mk q
  obtain ⟨q0, q1, qP, qK, qD, qN⟩ := q
  exact ⟨q0, q1, qP, va_K.moved (u := U) (U := U.calling g mk a) (Vm.Alike.refl U.vm) qK, qD, zm_nw_same (s := U) (U := U.calling g mk a) hnest rfl qN⟩
/-- behind a call: the callee's world is the caller's -/
theorem zm_back {ls : Array Slot} {r : List Value} {v1 : Option Value} {w1 : List zm_E} {st₀ t : State} {H1 : Heap} {locs1 : List Loc} {v : Option Value} {aa : Array Value} (hA : ∀ q, s.heap.size ≤ q → A q) (hL : zm_L ad ls nL lv) (hD : va_D A (zm_w tc ad 0 ws)) (hS : va_S A s.heap H locs) (hn : ws.length = L)
    (h0 : st₀.heap = H) (ht : t.heap = H1) (hq : zm_Qc D cl tc ad ws v1 w1 H.size aa st₀ (.returned v) t) (hloc : ∀ q ∈ locs1, q ∈ locs ∨ va_A (zm_w tc ad 0 ws) H.size q.base)
    (hg : zm_G p l e R s m args below meth c Q D cl tc ad A nL L (pc + 3, lv, v1.toList ++ r, w1)) : W p l e R s m args below meth c H1 locs1 0 0 Q (F0 m (pc + 3) ls (v.toList ++ r.map (zm_v ad))) := by
  obtain ⟨⟨hv, hP1, hlen⟩, hF1, hF2⟩ := hq
  cases hv
  have hfree : ∀ q, va_A (zm_w tc ad 0 ws) H.size q → A q := by
    intro q h
    rcases h with ⟨k, e, h⟩ | h
    · exact hD.2 k (q, e) h
    · exact hA q (Nat.le_trans hS.1 h)
  have h2 := hg H1 locs1 ls hL (by rw [← ht]; exact hP1) (zm_D_len hD hlen) ⟨Nat.le_trans hS.1 (by rw [← ht, ← h0]; exact hF1), fun q h1 h2 => by
      have h3 := Nat.lt_of_lt_of_le h1 hS.1
      rw [← ht, hF2 q (by rw [h0]; exact h3) (fun z => h2 (hfree q z)), h0]
      exact hS.2.1 q h1 h2, fun q hq => by
      rcases hloc q hq with h | h
      · exact hS.2.2 q h
      · exact hfree _ h⟩ (hlen.trans hn)
  have e1 : (v1.toList ++ r).map (zm_v ad) = (v1.map (zm_v ad)).toList ++ r.map (zm_v ad) := by cases v1 <;> simp
  rw [← e1]
  exact h2
abbrev zm_IH (l : Launch) (get : Nat → Option zm_M) (gw nw : List Jvm.Cond) (D : va_G) (cl : List vw_C) (tc : Nat → ClassId) (ad : Nat → Nat) (d : Nat) (ev : Nat → List Value → List zm_E → Option Value → List zm_E → Prop) : Prop := ∀ (k : Nat) (as : List Value) (ws : List zm_E) (v : Option Value) (w : List zm_E), ev k as ws v w → ∀ M', get k = some M' → ∀ sz, Met l M'.1 (zm_ws gw M') (zm_rm d) (zm_Pc D cl tc ad nw as ws sz) (zm_Qc D cl tc ad ws v w sz) 0 0 (va_A (zm_w tc ad 0 ws) sz)
theorem zg_cv (hx : p.tables.exec = Jvm.exec) (hb : c.code = cc) (hml : c.maxLocals = nL) (htg : ∀ x ∈ gw, x.before args s = true) (hgood : zm_goodL gw) (hNw : ∀ x ∈ nw, va_Nw x s) (hnest : ∀ x ∈ nw, zm_nest x) (hown : s.vm.findClass own = some m.cls) (hK : va_K D cl (zm_tys tc) s) (hA : ∀ q, s.heap.size ≤ q → A q)
    (hd : decode cc pc = .ok (.invokevirtual idx, 3)) (hG : zm_okG get gw nw own idx u w z false) (hokc : ∀ k M', get k = some M' → zm_okM cl gw M') (IH : zm_IH l get gw nw D cl tc ad d ev) (hR : d + 1 ≤ R.frames ∧ 60 * d + 60 ≤ R.locals)
    (h : zm_o ev (zm_G p l e R s m args below meth c Q D cl tc ad A nL L) v0 w0 (zm_cv (pc + 3) lv ws u z (st.take w) (st.drop w))) : zm_G p l e R s m args below meth c Q D cl tc ad A nL L (pc, lv, st, ws) := by
  rcases hdr : st.drop w with _ | ⟨b, r⟩
  · rw [hdr] at h; exact (show False from h).elim
  rw [hdr] at h
  cases b with
  | ref b =>
    rcases hq : zm_n ws b with _ | ⟨x | ⟨ci, fs⟩⟩
    · simp only [zm_cv, hq] at h; exact (show False from h).elim
    · simp only [zm_cv, hq] at h; exact (show False from h).elim
    · simp only [zm_cv, hq, zm_cv2] at h
      cases hc : Nat.beq ci z with
      | false => rw [hc] at h; exact (show False from h).elim
      | true =>
        rw [hc] at h
        cases hs8 : Nat.ble ((r.map fun v => v.category).sum) 8 with
        | false => rw [hs8] at h; exact (show False from h).elim
        | true =>
          rw [hs8] at h
          obtain ⟨v1, w1, hev, hgo⟩ : ∃ v1 w1, ev u (.ref b :: (st.take w).reverse) ws v1 w1 ∧ zm_G p l e R s m args below meth c Q D cl tc ad A nL L (pc + 3, lv, v1.toList ++ r, w1) := h
          have hcu := Nat.eq_of_beq_eq_true hc
          have h8 := Nat.le_of_ble_eq_true hs8
          obtain ⟨M', hM1, hM2, hM3, hM4, hM5⟩ := hG
          obtain ⟨k1, k2, k3, k4, k5, k6, -, k8⟩ := hokc u M' hM1
          obtain ⟨k9, k10, T, N, k11⟩ := k8 hM4
          rw [hM5 rfl, ← hcu] at k11
          have est : st = st.take w ++ .ref b :: r := by rw [← hdr, List.take_append_drop]
          have hwl : (st.take w).length = w := by
            have h1 : (st.drop w).length = st.length - w := List.length_drop
            rw [hdr] at h1
            simp only [List.length_cons] at h1
            rw [List.length_take]
            omega
          intro H locs ls hL hP hD hS hn
          have hMet := IH u _ ws v1 w1 hev M' hM1 H.size
          have hpre : PreV s H M'.1.cls (ad b) (zm_Pc D cl tc ad nw (.ref b :: (st.take w).reverse) ws H.size) ((st.take w).reverse.map (zm_v ad)) := ⟨zm_blind hnest, va_recv hK hP k11 (zm_w_at hq), fun U hU hW => ⟨rfl, by rw [hU], by rw [hU]; exact hP, va_K.moved hW.alike hK, hD.weaken (fun _ _ _ _ => trivial), zm_nw_warm hnest hW hNw⟩⟩
          have hstack : (F0 m pc ls (st.map (zm_v ad))).stack = ((st.take w).reverse.map (zm_v ad)).reverse ++ .ref (ad b) :: r.map (zm_v ad) := by
            show st.map (zm_v ad) = _
            rw [List.map_reverse, List.reverse_reverse]
            conv => lhs; rw [est]
            rw [List.map_append]
            rfl
          have hlen2 : ((st.take w).reverse.map (zm_v ad)).length = M'.2.2.2.2.1 := by rw [List.length_map, List.length_reverse, hwl, hM3]
          have hr8 : 2 * (F0 m pc ls (st.map (zm_v ad))).monitorRoom + ((r.map (zm_v ad)).map fun v => v.category).sum ≤ 8 := lv_room (by rw [zm_cats]; exact h8)
          have hroom : (zm_rm d).frames + 1 ≤ R.frames ∧ 8 + (M'.2.2.1 + 11) + (zm_rm d).locals ≤ R.locals := ⟨hR.1, by show 8 + (M'.2.2.1 + 11) + 60 * d ≤ R.locals; omega⟩
          rcases hM2 with hM2 | ⟨host, hM2⟩
          · have cw := cwV (own := own) (C := M'.1.cls) (index := idx) (y := M'.1) (ws := zm_ws gw M') (ws' := gw) (rm := zm_rm d) (R := R) (mc := 0) (ms := 0) M'.2.2.2.2.1 htg (fun x hx => by
              rcases List.mem_append.mp hx with h | h
              · rcases List.mem_cons.mp h with rfl | h
                · exact ⟨hM2, hgood _ hM2⟩
                rcases List.mem_cons.mp h with rfl | h
                · exact ⟨k9, hgood _ k9⟩
                rcases List.mem_cons.mp h with rfl | h
                · exact ⟨k10, hgood _ k10⟩
                rcases List.mem_cons.mp h with rfl | h
                · exact ⟨k3, hgood _ k3⟩
                · cases h
              · exact zm_goodIn hgood k2 x h) rfl rfl rfl ⟨rfl, k4.1, k4.2, k5⟩ hroom
            exact zm_callg (mc := 0) (ms := 0) (va_runV ⟨hx, hb, hml, hown, htg⟩ hMet cw hpre rfl hlen2 hL.1 hstack hr8 hd ⟨Nat.zero_le _, Nat.zero_le _⟩) (fun v st₀ t H1 locs1 h0 ht hq1 hloc => zm_back hA hL hD hS hn h0 ht hq1 hloc hgo)
          · have cw := va_cnB (own := own) (host := host) (index := idx) (y := M'.1) (ws := zm_ws gw M') (ws' := gw) (rm := zm_rm d) (R := R) (mc := 0) (ms := 0) M'.2.2.2.2.1 htg (zm_goodIn hgood k2) rfl rfl rfl (hNw _ hM2) (htg _ k3) ⟨k4.1, k4.2, k5⟩ hroom
            exact zm_callg (mc := 0) (ms := 0) (va_runVN ⟨hx, hb, hml, hown, htg⟩ hMet ⟨cw, htg _ k9, htg _ k10⟩ hpre rfl hlen2 hL.1 hstack hr8 hd ⟨Nat.zero_le _, Nat.zero_le _⟩) (fun v st₀ t H1 locs1 h0 ht hq1 hloc => zm_back hA hL hD hS hn h0 ht hq1 hloc hgo)
  | _ => exact (show False from h).elim
theorem zg_cs (hx : p.tables.exec = Jvm.exec) (hb : c.code = cc) (hml : c.maxLocals = nL) (htg : ∀ x ∈ gw, x.before args s = true) (hgood : zm_goodL gw) (hNw : ∀ x ∈ nw, va_Nw x s) (hnest : ∀ x ∈ nw, zm_nest x) (hown : s.vm.findClass own = some m.cls) (hK : va_K D cl (zm_tys tc) s) (hA : ∀ q, s.heap.size ≤ q → A q)
    (hd : decode cc pc = .ok (.invokestatic idx, 3)) (hG : zm_okG get gw nw own idx u w z true) (hokc : ∀ k M', get k = some M' → zm_okM cl gw M') (IH : zm_IH l get gw nw D cl tc ad d ev) (hR : d + 1 ≤ R.frames ∧ 60 * d + 60 ≤ R.locals)
    (h : zm_o ev (zm_G p l e R s m args below meth c Q D cl tc ad A nL L) v0 w0 (zm_cs (pc + 3) lv ws u w st)) : zm_G p l e R s m args below meth c Q D cl tc ad A nL L (pc, lv, st, ws) := by
  cases hc : Nat.ble w st.length with
  | false => simp only [zm_cs, hc] at h; exact (show False from h).elim
  | true =>
    simp only [zm_cs, hc] at h
    cases hs8 : Nat.ble (((st.drop w).map fun v => v.category).sum) 8 with
    | false => rw [hs8] at h; exact (show False from h).elim
    | true =>
      rw [hs8] at h
      obtain ⟨v1, w1, hev, hgo⟩ : ∃ v1 w1, ev u (st.take w).reverse ws v1 w1 ∧ zm_G p l e R s m args below meth c Q D cl tc ad A nL L (pc + 3, lv, v1.toList ++ st.drop w, w1) := h
      have hwl : (st.take w).length = w := by rw [List.length_take]; have := Nat.le_of_ble_eq_true hc; omega
      have h8 := Nat.le_of_ble_eq_true hs8
      obtain ⟨M', hM1, hM2, hM3, hM4, hM5⟩ := hG
      obtain ⟨k1, k2, k3, k4, k5, k6, k7, -⟩ := hokc u M' hM1
      have k9 := k7 hM4
      intro H locs ls hL hP hD hS hn
      have hMet := IH u _ ws v1 w1 hev M' hM1 H.size
      have hpre : PreS s H (zm_Pc D cl tc ad nw (st.take w).reverse ws H.size) ((st.take w).reverse.map (zm_v ad)) := ⟨zm_blind hnest, fun U hU hW => ⟨rfl, by rw [hU], by rw [hU]; exact hP, va_K.moved hW.alike hK, hD.weaken (fun _ _ _ _ => trivial), zm_nw_warm hnest hW hNw⟩⟩
      have hstack : (F0 m pc ls (st.map (zm_v ad))).stack = ((st.take w).reverse.map (zm_v ad)).reverse ++ (st.drop w).map (zm_v ad) := by
        show st.map (zm_v ad) = _
        rw [List.map_reverse, List.reverse_reverse, ← List.map_append, List.take_append_drop]
      have hlen2 : ((st.take w).reverse.map (zm_v ad)).length = M'.2.2.2.2.1 := by rw [List.length_map, List.length_reverse, hwl, hM3]
      have hr8 : 2 * (F0 m pc ls (st.map (zm_v ad))).monitorRoom + (((st.drop w).map (zm_v ad)).map fun v => v.category).sum ≤ 8 := lv_room (by rw [zm_cats]; exact h8)
      have hroom : (zm_rm d).frames + 1 ≤ R.frames ∧ 8 + (M'.2.2.1 + 11) + (zm_rm d).locals ≤ R.locals := ⟨hR.1, by show 8 + (M'.2.2.1 + 11) + 60 * d ≤ R.locals; omega⟩
      rcases hM2 with hM2 | ⟨host, hM2⟩
      · have cw := callB_of (own := own) (index := idx) (y := M'.1) (ws := zm_ws gw M') (ws' := gw) (rm := zm_rm d) (R := R) (mc := 0) (ms := 0) M'.2.2.2.2.1 htg (zm_goodIn hgood k2) rfl rfl rfl (htg _ k3) (htg _ hM2) ⟨k4.1, k4.2, k5⟩ hroom
        exact zm_callg (mc := 0) (ms := 0) (va_runS ⟨hx, hb, hml, hown, htg⟩ hMet ⟨cw, htg _ k9⟩ hpre rfl hlen2 hL.1 hstack hr8 hd ⟨Nat.zero_le _, Nat.zero_le _⟩) (fun v st₀ t H1 locs1 h0 ht hq1 hloc => zm_back hA hL hD hS hn h0 ht hq1 hloc hgo)
      · have cw := va_cnB (own := own) (host := host) (index := idx) (y := M'.1) (ws := zm_ws gw M') (ws' := gw) (rm := zm_rm d) (R := R) (mc := 0) (ms := 0) M'.2.2.2.2.1 htg (zm_goodIn hgood k2) rfl rfl rfl (hNw _ hM2) (htg _ k3) ⟨k4.1, k4.2, k5⟩ hroom
        exact zm_callg (mc := 0) (ms := 0) (va_runSN ⟨hx, hb, hml, hown, htg⟩ hMet ⟨cw, htg _ k9, trivial⟩ hpre rfl hlen2 hL.1 hstack hr8 hd ⟨Nat.zero_le _, Nat.zero_le _⟩) (fun v st₀ t H1 locs1 h0 ht hq1 hloc => zm_back hA hL hD hS hn h0 ht hq1 hloc hgo)
theorem zg_cpy (hx : p.tables.exec = Jvm.exec) (hb : c.code = cc) (hml : c.maxLocals = nL) (hown : s.vm.findClass own = some m.cls) (hK : va_K D cl (zm_tys tc) s)
    (hlink : (Jvm.Cond.methodLink own idx arraycopyName).before args s = true) (hnat : (Jvm.Cond.native arraycopyName).before args s = true) (hstat : (Jvm.Cond.static arraycopyName).before args s = true) (hini : (Jvm.Cond.initialized "java/lang/System").before args s = true)
    (hd : decode cc pc = .ok (.invokestatic idx, 3)) (hR : 1 ≤ R.frames ∧ 60 ≤ R.locals)
    (h : zm_o ev (zm_G p l e R s m args below meth c Q D cl tc ad A nL L) v0 w0 (zm_cpy (pc + 3) lv ws st)) : zm_G p l e R s m args below meth c Q D cl tc ad A nL L (pc, lv, st, ws) := by
  unfold zm_cpy at h
  split at h
  next n dp a sp a0 r =>
    cases hz : decide (dp = 0 ∧ sp = 0) with
    | false => rw [hz] at h; exact (show False from h).elim
    | true =>
      rw [hz] at h
      obtain ⟨rfl, rfl⟩ := of_decide_eq_true hz
      cases hs8 : Nat.ble ((r.map fun v => v.category).sum) 8 with
      | false => rw [hs8] at h; exact (show False from h).elim
      | true =>
        rw [hs8] at h
        have h8 := Nat.le_of_ble_eq_true hs8
        rcases hq0 : zm_n ws a0 with _ | ⟨⟨k0, n0, f | f⟩ | y⟩
        · simp only [hq0, zm_cpy1] at h; exact (show False from h).elim
        · simp only [hq0, zm_cpy1] at h
          cases hk0 : Nat.beq k0 0 with
          | false => rw [hk0] at h; exact (show False from h).elim
          | true =>
            rw [hk0] at h
            have e0 := Nat.eq_of_beq_eq_true hk0
            subst e0
            rcases hq1 : zm_n ws a with _ | ⟨⟨k1, n1, g | g⟩ | y⟩
            · simp only [hq1, zm_cpy2] at h; exact (show False from h).elim
            · simp only [hq1, zm_cpy2] at h
              cases hk1 : Nat.beq k1 0 with
              | false => rw [hk1] at h; exact (show False from h).elim
              | true =>
                rw [hk1] at h
                have e1 := Nat.eq_of_beq_eq_true hk1
                subst e1
                have h2 : (¬ n < 0 ∧ n.toNatClampNeg ≤ n0 ∧ n.toNatClampNeg ≤ n1) ∧ zm_G p l e R s m args below meth c Q D cl tc ad A nL L (pc + 3, lv, r, ws.set a (.inl (0, n1, .inl (va_cpy f g 0 0 n.toNatClampNeg)))) := h
                intro H locs ls hL hP hD hS hn
                have z0 : (0 : Int32).toNatClampNeg = 0 := by decide
                refine va_copyi hx hb (hml.trans hL.1.symm) hown hlink hnat hstat hini hK hP hD hS a0 a 0 0 (zm_w_at hq0) (zm_w_at hq1) rfl rfl rfl (by decide) (by decide) h2.1.1 (by rw [z0]; omega) (by rw [z0]; omega) (fun i _ => rfl) hR.1 ?_ hd (fun H1 locs1 hP1 hD1 hS1 => h2.2 H1 locs1 ls hL (by rw [← zm_w_set0]; rw [z0] at hP1; exact hP1) (by rw [← zm_w_set0]; rw [z0] at hD1; exact hD1) hS1 (by rw [← hn]; exact List.length_set))
                have e5 : nativeFrameWords "java/lang/System" "arraycopy" 5 = 7 := by decide
                rw [e5, zm_cats]
                omega
            · simp only [hq1, zm_cpy2] at h; exact (show False from h).elim
            · simp only [hq1, zm_cpy2] at h; exact (show False from h).elim
        · simp only [hq0, zm_cpy1] at h; exact (show False from h).elim
        · simp only [hq0, zm_cpy1] at h; exact (show False from h).elim
  next => exact h.elim
theorem zg_min (hx : p.tables.exec = Jvm.exec) (hb : c.code = cc) (hml : c.maxLocals = nL) (hown : s.vm.findClass own = some m.cls)
    (hlink : (Jvm.Cond.methodLink own idx Lib.Math.min.name).before args s = true) (hstat : (Jvm.Cond.static Lib.Math.min.name).before args s = true) (hini : (Jvm.Cond.initialized "java/lang/Math").before args s = true) (hcode : (Jvm.Cond.code Lib.Math.min.name Lib.Math.min.code 2 (some .int)).before args s = true)
    (hd : decode cc pc = .ok (.invokestatic idx, 3)) (hR : 1 ≤ R.frames ∧ 60 ≤ R.locals)
    (h : zm_o ev (zm_G p l e R s m args below meth c Q D cl tc ad A nL L) v0 w0 (zm_min (pc + 3) lv ws st)) : zm_G p l e R s m args below meth c Q D cl tc ad A nL L (pc, lv, st, ws) := by
  unfold zm_min at h
  split at h
  next y x r =>
    cases hs8 : Nat.ble ((r.map fun v => v.category).sum) 8 with
    | false => rw [hs8] at h; exact (show False from h).elim
    | true =>
      rw [hs8] at h
      have h8 := Nat.le_of_ble_eq_true hs8
      intro H locs ls hL hP hD hS hn
      exact va_mmin hx hb (hml.trans hL.1.symm) hown hlink hstat hini hcode hR.1 (by rw [zm_cats]; omega) (Nat.zero_le _) (Nat.zero_le _) hd (h.2 H locs ls hL hP hD hS hn)
  next => exact h.elim
end ZMC
end
section
/-! Answers; one step whatever the instruction; a run of our machine is a contract. -/
abbrev zm_X : Type := List (Nat × Nat × Nat) × List (Nat × Nat × Nat × Nat) × List (Nat × Nat × Nat × Nat × Bool) × List (Nat × Int32) × List (Nat × Int64) × List Nat × List Nat
/-- what the constant pool of a class says, as the tables have it: fields read, fields written, methods, numbers, longs, arraycopy -/
def zm_okX (get : Nat → Option zm_M) (cl : List vw_C) (gw nw : List Jvm.Cond) (own : String) (X : zm_X) : Prop :=
  (∀ q ∈ X.1, zm_okF cl gw nw own q.1 q.2.1 q.2.2) ∧ (∀ q ∈ X.2.1, zm_okP cl gw nw own q.1 q.2.1 q.2.2.1 (zm_ft q.2.2.2)) ∧ (∀ q ∈ X.2.2.1, zm_okG get gw nw own q.1 q.2.1 q.2.2.1 q.2.2.2.1 q.2.2.2.2) ∧ (∀ q ∈ X.2.2.2.1, Jvm.Cond.constant own q.1 q.2 ∈ gw) ∧ (∀ q ∈ X.2.2.2.2.1, Jvm.Cond.constantLong own q.1 q.2 ∈ gw) ∧
  (∀ i ∈ X.2.2.2.2.2.1, Jvm.Cond.methodLink own i arraycopyName ∈ gw ∧ Jvm.Cond.native arraycopyName ∈ gw ∧ Jvm.Cond.static arraycopyName ∈ gw ∧ Jvm.Cond.initialized "java/lang/System" ∈ gw) ∧
  ∀ i ∈ X.2.2.2.2.2.2, Jvm.Cond.methodLink own i Lib.Math.min.name ∈ gw ∧ Jvm.Cond.static Lib.Math.min.name ∈ gw ∧ Jvm.Cond.initialized "java/lang/Math" ∈ gw ∧ Jvm.Cond.code Lib.Math.min.name Lib.Math.min.code 2 (some .int) ∈ gw
/-- an instruction's numbers are what the instruction says -/
def zm_okB (X : zm_X) (nL pc : Nat) (q : zm_I) : Bool :=
  match q.1 with
  | .iconst k => decide (q.2.1 = 1 ∧ Int32.ofInt k = q.2.2.1)
  | .bipush k => decide (q.2.1 = 2 ∧ (Int8.ofInt k).toInt32 = q.2.2.1)
  | .sipush k => decide (q.2.1 = 3 ∧ (Int16.ofInt k).toInt32 = q.2.2.1)
  | .ldc i => decide (q.2.1 = 2 ∧ (i, q.2.2.1) ∈ X.2.2.2.1)
  | .ldc_w i => decide (q.2.1 = 3 ∧ (i, q.2.2.1) ∈ X.2.2.2.1)
  | .lconst k => decide (q.2.1 = 1 ∧ Int64.ofNat (k : Nat) = q.2.2.2.1)
  | .ldc2_w i => decide (q.2.1 = 3 ∧ (i, q.2.2.2.1) ∈ X.2.2.2.2.1)
  | .iload_n k => decide (q.2.1 = 1 ∧ (k : Nat) = q.2.2.2.2.1)
  | .iload i => decide (q.2.1 = 2 ∧ i = q.2.2.2.2.1)
  | .lload_n k => decide (q.2.1 = 1 ∧ (k : Nat) = q.2.2.2.2.1)
  | .lload i => decide (q.2.1 = 2 ∧ i = q.2.2.2.2.1)
  | .aload_n k => decide (q.2.1 = 1 ∧ (k : Nat) = q.2.2.2.2.1)
  | .aload i => decide (q.2.1 = 2 ∧ i = q.2.2.2.2.1)
  | .istore_n k => decide (q.2.1 = 1 ∧ (k : Nat) = q.2.2.2.2.1 ∧ q.2.2.2.2.1 < nL)
  | .istore i => decide (q.2.1 = 2 ∧ i = q.2.2.2.2.1 ∧ q.2.2.2.2.1 < nL)
  | .lstore_n k => decide (q.2.1 = 1 ∧ (k : Nat) = q.2.2.2.2.1 ∧ q.2.2.2.2.1 + 1 < nL)
  | .lstore i => decide (q.2.1 = 2 ∧ i = q.2.2.2.2.1 ∧ q.2.2.2.2.1 + 1 < nL)
  | .astore_n k => decide (q.2.1 = 1 ∧ (k : Nat) = q.2.2.2.2.1 ∧ q.2.2.2.2.1 < nL)
  | .astore i => decide (q.2.1 = 2 ∧ i = q.2.2.2.2.1 ∧ q.2.2.2.2.1 < nL)
  | .iinc i k => decide (q.2.1 = 3 ∧ i = q.2.2.2.2.1 ∧ q.2.2.2.2.1 < nL ∧ Int32.ofInt k = q.2.2.1)
  | .ifCond _ off => decide (q.2.1 = 3 ∧ (pc : Int) + off = (q.2.2.2.2.1 : Int))
  | .if_icmp _ off => decide (q.2.1 = 3 ∧ (pc : Int) + off = (q.2.2.2.2.1 : Int))
  | .goto off => decide (q.2.1 = 3 ∧ (pc : Int) + off = (q.2.2.2.2.1 : Int))
  | .tableswitch d lo hi offs => decide (0 ≤ (pc : Int) + d) && (List.range (hi - lo + 1).toNat).all (fun i => match offs[i]? with
    | some off => decide (0 ≤ (pc : Int) + off)
    | none => false)
  | .getfield i => decide (q.2.1 = 3 ∧ (i, q.2.2.2.2.1, q.2.2.2.2.2.1) ∈ X.1)
  | .putfield i => decide (q.2.1 = 3 ∧ (i, q.2.2.2.2.1, q.2.2.2.2.2.1, q.2.2.2.2.2.2) ∈ X.2.1)
  | .invokevirtual i => decide (q.2.1 = 3 ∧ (i, q.2.2.2.2.1, q.2.2.2.2.2.1, q.2.2.2.2.2.2, false) ∈ X.2.2.1)
  | .invokestatic i => match Nat.beq q.2.2.2.2.2.2 99 with
    | true => decide (q.2.1 = 3 ∧ i ∈ X.2.2.2.2.2.1)
    | false => match Nat.beq q.2.2.2.2.2.2 98 with
      | true => decide (q.2.1 = 3 ∧ i ∈ X.2.2.2.2.2.2)
      | false => decide (q.2.1 = 3 ∧ (i, q.2.2.2.2.1, q.2.2.2.2.2.1, q.2.2.2.2.2.2, true) ∈ X.2.2.1)
  | _ => decide (q.2.1 = 1)
section ZMR
variable {p : Program} {l : Launch} {e : Env} {R : Room} {s : State} {m : MethodId} {args : Array Value} {below : List Frame} {meth : Method} {c : Code} {Q : State → Prop} {D : va_G} {cl : List vw_C} {tc : Nat → ClassId} {ad : Nat → Nat} {A : Nat → Prop} {nL L : Nat}
variable {cc : ByteArray} {pc : Nat} {lv : List (Option Value)} {st : List Value} {ws ws0 : List zm_E} {ev : Nat → List Value → List zm_E → Option Value → List zm_E → Prop} {v0 : Option Value} {w0 : List zm_E} {rt : Option FieldType}
variable {own : String} {gw nw : List Jvm.Cond} {get : Nat → Option zm_M} {d : Nat} {X : zm_X}

theorem zg_ri (hx : p.tables.exec = Jvm.exec) (hb : c.code = cc) (hr : meth.sig.returnType = rt) (hlocks : meth.locks = false) (hA : A = va_A (zm_w tc ad 0 ws0) s.heap.size) (hQ : Q = MQ below (zm_Qc D cl tc ad ws0 v0 w0 s.heap.size) args s 0 0 (va_A (zm_w tc ad 0 ws0) s.heap.size)) (hLn : L = ws0.length) (hd : decode cc pc = .ok (.ireturn, 1)) (h : zm_o ev (zm_G p l e R s m args below meth c Q D cl tc ad A nL L) v0 w0 (zm_ri ws rt st)) : zm_G p l e R s m args below meth c Q D cl tc ad A nL L (pc, lv, st, ws) := by
  subst hA; subst hQ; subst hLn
  unfold zm_ri at h
  split at h
  next x =>
    split at h
    next =>
      obtain ⟨h1, rfl, rfl⟩ : _ ∧ v0 = some (.int x) ∧ w0 = ws := h
      intro H locs ls hL hP hD hS hn
      exact W.iret hx hb hr (fun t ht hW => ⟨⟨rfl, by rw [ht]; exact hP, hn⟩, hS.F ht⟩) hS.2.2 hd (hlocks := hlocks)
    next =>
      obtain ⟨h1, rfl, rfl⟩ : _ ∧ v0 = some (.int x) ∧ w0 = ws := h
      intro H locs ls hL hP hD hS hn
      exact W.zret hx hb hr (by rcases h1 with rfl | rfl <;> decide) (fun t ht hW => ⟨⟨rfl, by rw [ht]; exact hP, hn⟩, hS.F ht⟩) hS.2.2 hd (hlocks := hlocks)
    next => exact (show False from h).elim
  next => exact h.elim
theorem zg_rl (hx : p.tables.exec = Jvm.exec) (hb : c.code = cc) (hr : meth.sig.returnType = rt) (hlocks : meth.locks = false) (hA : A = va_A (zm_w tc ad 0 ws0) s.heap.size) (hQ : Q = MQ below (zm_Qc D cl tc ad ws0 v0 w0 s.heap.size) args s 0 0 (va_A (zm_w tc ad 0 ws0) s.heap.size)) (hLn : L = ws0.length) (hd : decode cc pc = .ok (.lreturn, 1)) (h : zm_o ev (zm_G p l e R s m args below meth c Q D cl tc ad A nL L) v0 w0 (zm_rl ws rt st)) : zm_G p l e R s m args below meth c Q D cl tc ad A nL L (pc, lv, st, ws) := by
  subst hA; subst hQ; subst hLn
  unfold zm_rl at h
  split at h
  next x =>
    split at h
    next =>
      obtain ⟨h1, rfl, rfl⟩ : _ ∧ v0 = some (.long x) ∧ w0 = ws := h
      intro H locs ls hL hP hD hS hn
      exact W.lret hx hb hr (fun t ht hW => ⟨⟨rfl, by rw [ht]; exact hP, hn⟩, hS.F ht⟩) hS.2.2 hd (hlocks := hlocks)
    next => exact (show False from h).elim
  next => exact h.elim
theorem zg_ra (hx : p.tables.exec = Jvm.exec) (hb : c.code = cc) (hr : meth.sig.returnType = rt) (hlocks : meth.locks = false) (hA : A = va_A (zm_w tc ad 0 ws0) s.heap.size) (hQ : Q = MQ below (zm_Qc D cl tc ad ws0 v0 w0 s.heap.size) args s 0 0 (va_A (zm_w tc ad 0 ws0) s.heap.size)) (hLn : L = ws0.length) (hd : decode cc pc = .ok (.areturn, 1)) (h : zm_o ev (zm_G p l e R s m args below meth c Q D cl tc ad A nL L) v0 w0 (zm_ra ws rt st)) : zm_G p l e R s m args below meth c Q D cl tc ad A nL L (pc, lv, st, ws) := by
  subst hA; subst hQ; subst hLn
  unfold zm_ra at h
  split at h
  next x =>
    split at h
    next nm =>
      obtain ⟨h1, rfl, rfl⟩ : _ ∧ v0 = some (.ref x) ∧ w0 = ws := h
      intro H locs ls hL hP hD hS hn
      exact W.aret hx hb hr (Or.inl ⟨nm, rfl⟩) (Or.inr ⟨ad x, rfl⟩) (fun t ht hW => ⟨⟨rfl, by rw [ht]; exact hP, hn⟩, hS.F ht⟩) hS.2.2 hd (hlocks := hlocks)
    next => exact (show False from h).elim
  next => exact h.elim
theorem zg_rv (hx : p.tables.exec = Jvm.exec) (hb : c.code = cc) (hr : meth.sig.returnType = rt) (hlocks : meth.locks = false) (hA : A = va_A (zm_w tc ad 0 ws0) s.heap.size) (hQ : Q = MQ below (zm_Qc D cl tc ad ws0 v0 w0 s.heap.size) args s 0 0 (va_A (zm_w tc ad 0 ws0) s.heap.size)) (hLn : L = ws0.length) (hd : decode cc pc = .ok (.return_, 1)) (h : zm_o ev (zm_G p l e R s m args below meth c Q D cl tc ad A nL L) v0 w0 (zm_rv ws rt st)) : zm_G p l e R s m args below meth c Q D cl tc ad A nL L (pc, lv, st, ws) := by
  subst hA; subst hQ; subst hLn
  unfold zm_rv at h
  split at h
  next =>
    split at h
    next =>
      obtain ⟨h1, rfl, rfl⟩ : _ ∧ v0 = none ∧ w0 = ws := h
      intro H locs ls hL hP hD hS hn
      exact W.vret hx hb hr (fun t ht hW => ⟨⟨rfl, by rw [ht]; exact hP, hn⟩, hS.F ht⟩) hS.2.2 hd (hlocks := hlocks)
    next => exact (show False from h).elim
  next => exact h.elim
theorem zm_step (hx : p.tables.exec = Jvm.exec) (hb : c.code = cc) (hml : c.maxLocals = nL) (hr : meth.sig.returnType = rt) (hlocks : meth.locks = false) (htg : ∀ x ∈ gw, x.before args s = true) (hgood : zm_goodL gw) (hNw : ∀ x ∈ nw, va_Nw x s) (hnest : ∀ x ∈ nw, zm_nest x) (hown : s.vm.findClass own = some m.cls) (hK : va_K D cl (zm_tys tc) s)
    (hAe : A = va_A (zm_w tc ad 0 ws0) s.heap.size) (hQ : Q = MQ below (zm_Qc D cl tc ad ws0 v0 w0 s.heap.size) args s 0 0 (va_A (zm_w tc ad 0 ws0) s.heap.size)) (hLn : L = ws0.length)
    (hX : zm_okX get cl gw nw own X) (hokc : ∀ k M', get k = some M' → zm_okM cl gw M') (IH : zm_IH l get gw nw D cl tc ad d ev) (hR : d + 1 ≤ R.frames ∧ 60 * d + 60 ≤ R.locals)
    (q : zm_I) (hd : decode cc pc = .ok (q.1, q.2.1)) (hB : zm_okB X nL pc q = true) (h : zm_o ev (zm_G p l e R s m args below meth c Q D cl tc ad A nL L) v0 w0 (zm_x rt q pc lv st ws)) : zm_G p l e R s m args below meth c Q D cl tc ad A nL L (pc, lv, st, ws) := by
  have hA : ∀ q, s.heap.size ≤ q → A q := fun q h => by rw [hAe]; exact Or.inr h
  obtain ⟨I, len, ci, cl64, u, w, z⟩ := q
  dsimp only at hd
  cases I with
  | iconst k =>
    obtain ⟨hl, hv⟩ := of_decide_eq_true hB
    dsimp only at hl hv h hd
    subst hl; subst hv
    exact zg_iconst hx hb hd rfl h
  | bipush k =>
    obtain ⟨hl, hv⟩ := of_decide_eq_true hB
    dsimp only at hl hv h hd
    subst hl; subst hv
    exact zg_bipush hx hb hd rfl h
  | sipush k =>
    obtain ⟨hl, hv⟩ := of_decide_eq_true hB
    dsimp only at hl hv h hd
    subst hl; subst hv
    exact zg_sipush hx hb hd rfl h
  | ldc i =>
    obtain ⟨hl, hv⟩ := of_decide_eq_true hB
    dsimp only at hl hv h hd
    subst hl
    exact zg_ldc hx hb hd hown (htg _ (hX.2.2.2.1 _ hv)) h
  | ldc_w i =>
    obtain ⟨hl, hv⟩ := of_decide_eq_true hB
    dsimp only at hl hv h hd
    subst hl
    exact zg_ldc_w hx hb hd hown (htg _ (hX.2.2.2.1 _ hv)) h
  | lconst k =>
    obtain ⟨hl, hv⟩ := of_decide_eq_true hB
    dsimp only at hl hv h hd
    subst hl; subst hv
    exact zg_lconst hx hb hd rfl h
  | ldc2_w i =>
    obtain ⟨hl, hv⟩ := of_decide_eq_true hB
    dsimp only at hl hv h hd
    subst hl
    exact zg_ldc2 hx hb hd hown (htg _ (hX.2.2.2.2.1 _ hv)) h
  | iload_n k =>
    obtain ⟨hl, hv⟩ := of_decide_eq_true hB
    dsimp only at hl hv h hd
    subst hl
    exact zg_iload_n hx hb hd hv h
  | iload i =>
    obtain ⟨hl, hv⟩ := of_decide_eq_true hB
    dsimp only at hl hv h hd
    subst hl; subst hv
    exact zg_iload hx hb hd h
  | lload_n k =>
    obtain ⟨hl, hv⟩ := of_decide_eq_true hB
    dsimp only at hl hv h hd
    subst hl
    exact zg_lload_n hx hb hd hv h
  | lload i =>
    obtain ⟨hl, hv⟩ := of_decide_eq_true hB
    dsimp only at hl hv h hd
    subst hl; subst hv
    exact zg_lload hx hb hd h
  | aload_n k =>
    obtain ⟨hl, hv⟩ := of_decide_eq_true hB
    dsimp only at hl hv h hd
    subst hl
    exact zg_aload_n hx hb hd hv h
  | aload i =>
    obtain ⟨hl, hv⟩ := of_decide_eq_true hB
    dsimp only at hl hv h hd
    subst hl; subst hv
    exact zg_aload hx hb hd h
  | istore_n k =>
    obtain ⟨hl, hv, hu⟩ := of_decide_eq_true hB
    dsimp only at hl hv hu h hd
    subst hl
    exact zg_istore_n hx hb hd hv hu h
  | istore i =>
    obtain ⟨hl, hv, hu⟩ := of_decide_eq_true hB
    dsimp only at hl hv hu h hd
    subst hl; subst hv
    exact zg_istore hx hb hd hu h
  | lstore_n k =>
    obtain ⟨hl, hv, hu⟩ := of_decide_eq_true hB
    dsimp only at hl hv hu h hd
    subst hl
    exact zg_lstore_n hx hb hd hv hu h
  | lstore i =>
    obtain ⟨hl, hv, hu⟩ := of_decide_eq_true hB
    dsimp only at hl hv hu h hd
    subst hl; subst hv
    exact zg_lstore hx hb hd hu h
  | astore_n k =>
    obtain ⟨hl, hv, hu⟩ := of_decide_eq_true hB
    dsimp only at hl hv hu h hd
    subst hl
    exact zg_astore_n hx hb hd hv hu h
  | astore i =>
    obtain ⟨hl, hv, hu⟩ := of_decide_eq_true hB
    dsimp only at hl hv hu h hd
    subst hl; subst hv
    exact zg_astore hx hb hd hu h
  | iinc i k =>
    obtain ⟨hl, hv, hu, hk⟩ := of_decide_eq_true hB
    dsimp only at hl hv hu hk h hd
    subst hl; subst hv
    exact zg_iinc hx hb hd hk hu h
  | iadd =>
    have hl : len = 1 := of_decide_eq_true hB
    subst hl
    exact zg_iadd hx hb hd h
  | isub =>
    have hl : len = 1 := of_decide_eq_true hB
    subst hl
    exact zg_isub hx hb hd h
  | imul =>
    have hl : len = 1 := of_decide_eq_true hB
    subst hl
    exact zg_imul hx hb hd h
  | iand =>
    have hl : len = 1 := of_decide_eq_true hB
    subst hl
    exact zg_iand hx hb hd h
  | ishl =>
    have hl : len = 1 := of_decide_eq_true hB
    subst hl
    exact zg_ishl hx hb hd h
  | idiv =>
    have hl : len = 1 := of_decide_eq_true hB
    subst hl
    exact zg_idiv hx hb hd h
  | irem =>
    have hl : len = 1 := of_decide_eq_true hB
    subst hl
    exact zg_irem hx hb hd h
  | ineg =>
    have hl : len = 1 := of_decide_eq_true hB
    subst hl
    exact zg_ineg hx hb hd h
  | ladd =>
    have hl : len = 1 := of_decide_eq_true hB
    subst hl
    exact zg_ladd hx hb hd h
  | lsub =>
    have hl : len = 1 := of_decide_eq_true hB
    subst hl
    exact zg_lsub hx hb hd h
  | lmul =>
    have hl : len = 1 := of_decide_eq_true hB
    subst hl
    exact zg_lmul hx hb hd h
  | land =>
    have hl : len = 1 := of_decide_eq_true hB
    subst hl
    exact zg_land hx hb hd h
  | lor =>
    have hl : len = 1 := of_decide_eq_true hB
    subst hl
    exact zg_lor hx hb hd h
  | lxor =>
    have hl : len = 1 := of_decide_eq_true hB
    subst hl
    exact zg_lxor hx hb hd h
  | ldiv =>
    have hl : len = 1 := of_decide_eq_true hB
    subst hl
    exact zg_ldiv hx hb hd h
  | lrem =>
    have hl : len = 1 := of_decide_eq_true hB
    subst hl
    exact zg_lrem hx hb hd h
  | lneg =>
    have hl : len = 1 := of_decide_eq_true hB
    subst hl
    exact zg_lneg hx hb hd h
  | lshl =>
    have hl : len = 1 := of_decide_eq_true hB
    subst hl
    exact zg_lshl hx hb hd h
  | lshr =>
    have hl : len = 1 := of_decide_eq_true hB
    subst hl
    exact zg_lshr hx hb hd h
  | lushr =>
    have hl : len = 1 := of_decide_eq_true hB
    subst hl
    exact zg_lushr hx hb hd h
  | i2l =>
    have hl : len = 1 := of_decide_eq_true hB
    subst hl
    exact zg_i2l hx hb hd h
  | l2i =>
    have hl : len = 1 := of_decide_eq_true hB
    subst hl
    exact zg_l2i hx hb hd h
  | lcmp =>
    have hl : len = 1 := of_decide_eq_true hB
    subst hl
    exact zg_lcmp hx hb hd h
  | dup =>
    have hl : len = 1 := of_decide_eq_true hB
    subst hl
    exact zg_dup hx hb hd h
  | dup2 =>
    have hl : len = 1 := of_decide_eq_true hB
    subst hl
    exact zg_dup2 hx hb hd h
  | ifCond k off =>
    obtain ⟨hl, ht⟩ := of_decide_eq_true hB
    dsimp only at hl ht h hd
    subst hl
    cases k with
    | eq => exact zg_if_eq hx hb hd ht h
    | ne => exact zg_if_ne hx hb hd ht h
    | lt => exact zg_if_lt hx hb hd ht h
    | ge => exact zg_if_ge hx hb hd ht h
    | gt => exact zg_if_gt hx hb hd ht h
    | le => exact zg_if_le hx hb hd ht h
  | if_icmp k off =>
    obtain ⟨hl, ht⟩ := of_decide_eq_true hB
    dsimp only at hl ht h hd
    subst hl
    cases k with
    | eq => exact zg_icmp_eq hx hb hd ht h
    | ne => exact zg_icmp_ne hx hb hd ht h
    | lt => exact zg_icmp_lt hx hb hd ht h
    | ge => exact zg_icmp_ge hx hb hd ht h
    | gt => exact zg_icmp_gt hx hb hd ht h
    | le => exact zg_icmp_le hx hb hd ht h
  | goto off =>
    obtain ⟨hl, ht⟩ := of_decide_eq_true hB
    dsimp only at hl ht h hd
    subst hl
    exact zg_goto hx hb hd ht h
  | tableswitch dd lo hi offs =>
    simp only [zm_okB, Bool.and_eq_true, decide_eq_true_eq, List.all_eq_true, List.mem_range] at hB
    refine zg_switch hx hb hd ⟨hB.1, fun i hi2 => ?_⟩ h
    have h1 := hB.2 i (by omega)
    split at h1
    next off ho => exact ⟨off, ho, of_decide_eq_true h1⟩
    next => cases h1
  | getfield i =>
    obtain ⟨hl, hv⟩ := of_decide_eq_true hB
    dsimp only at hl hv h hd
    subst hl
    exact zg_get hx hb htg hNw hown hK hd (hX.1 _ hv) h
  | putfield i =>
    obtain ⟨hl, hv⟩ := of_decide_eq_true hB
    dsimp only at hl hv h hd
    subst hl
    exact zg_put hx hb htg hNw hown hK hd (hX.2.1 _ hv) h
  | iaload =>
    have hl : len = 1 := of_decide_eq_true hB
    subst hl
    exact zg_iaload hx hb hK hd h
  | baload =>
    have hl : len = 1 := of_decide_eq_true hB
    subst hl
    exact zg_baload hx hb hK hd h
  | laload =>
    have hl : len = 1 := of_decide_eq_true hB
    subst hl
    exact zg_laload hx hb hK hd h
  | iastore =>
    have hl : len = 1 := of_decide_eq_true hB
    subst hl
    exact zg_iastore hx hb hK hd h
  | bastore =>
    have hl : len = 1 := of_decide_eq_true hB
    subst hl
    exact zg_bastore hx hb hK hd h
  | lastore =>
    have hl : len = 1 := of_decide_eq_true hB
    subst hl
    exact zg_lastore hx hb hK hd h
  | invokevirtual i =>
    obtain ⟨hl, hv⟩ := of_decide_eq_true hB
    dsimp only at hl hv h hd
    subst hl
    exact zg_cv hx hb hml htg hgood hNw hnest hown hK hA hd (hX.2.2.1 _ hv) hokc IH hR h
  | invokestatic i =>
    cases hz : Nat.beq z 99 with
    | true =>
      simp only [zm_okB, hz] at hB
      simp only [zm_x, hz] at h
      obtain ⟨hl, hv⟩ := of_decide_eq_true hB
      subst hl
      obtain ⟨a1, a2, a3, a4⟩ := hX.2.2.2.2.2.1 _ hv
      exact zg_cpy hx hb hml hown hK (htg _ a1) (htg _ a2) (htg _ a3) (htg _ a4) hd ⟨by omega, by omega⟩ h
    | false =>
      cases hz2 : Nat.beq z 98 with
      | true =>
        simp only [zm_okB, hz, hz2] at hB
        simp only [zm_x, hz, hz2] at h
        obtain ⟨hl, hv⟩ := of_decide_eq_true hB
        subst hl
        obtain ⟨a1, a2, a3, a4⟩ := hX.2.2.2.2.2.2 _ hv
        exact zg_min hx hb hml hown (htg _ a1) (htg _ a2) (htg _ a3) (htg _ a4) hd ⟨by omega, by omega⟩ h
      | false =>
        simp only [zm_okB, hz, hz2] at hB
        simp only [zm_x, hz, hz2] at h
        obtain ⟨hl, hv⟩ := of_decide_eq_true hB
        subst hl
        exact zg_cs hx hb hml htg hgood hNw hnest hown hK hA hd (hX.2.2.1 _ hv) hokc IH hR h
  | ireturn =>
    have hl : len = 1 := of_decide_eq_true hB
    subst hl
    exact zg_ri hx hb hr hlocks hAe hQ hLn hd h
  | lreturn =>
    have hl : len = 1 := of_decide_eq_true hB
    subst hl
    exact zg_rl hx hb hr hlocks hAe hQ hLn hd h
  | areturn =>
    have hl : len = 1 := of_decide_eq_true hB
    subst hl
    exact zg_ra hx hb hr hlocks hAe hQ hLn hd h
  | return_ =>
    have hl : len = 1 := of_decide_eq_true hB
    subst hl
    exact zg_rv hx hb hr hlocks hAe hQ hLn hd h
  | _ => exact (show False from h).elim
theorem zm_le_L {ad : Nat → Nat} {ls : Array Slot} {nL : Nat} {a b : List (Option Value)} (hle : zm_le a b) (h : zm_L ad ls nL b) : zm_L ad ls nL a := by
  refine ⟨h.1, h.2.1, fun i v hi => h.2.2 i v ?_⟩
  have key : ∀ (a b : List (Option Value)) (i : Nat), zm_le a b → zm_n a i = some (some v) → zm_n b i = some (some v) := by
    intro a
    induction a with
    | nil => intro b i _ hi; cases hi
    | cons x a ih =>
      intro b i hle hi
      cases b with
      | nil => exact (show False from hle).elim
      | cons y b =>
        obtain ⟨h1, h2⟩ : (x = none ∨ x = y) ∧ zm_le a b := hle
        cases i with
        | zero =>
          cases hi
          rcases h1 with h1 | h1
          · cases h1
          · rw [← h1]; rfl
        | succ i => exact ih b i h2 hi
  exact key a b i hle hi
theorem zm_o_mono {ev : Nat → List Value → List zm_E → Option Value → List zm_E → Prop} {g1 g2 : zm_S → Prop} {v : Option Value} {w : List zm_E} {r : zm_R} (hg : ∀ t, g1 t → g2 t) (h : zm_o ev g1 v w r) : zm_o ev g2 v w r := by
  rcases r with _ | ⟨⟨c, t⟩ | ⟨c, t, f⟩ | ⟨c, v0, w0⟩ | ⟨k, as, t⟩⟩
  · exact h
  · exact ⟨h.1, hg _ h.2⟩
  · exact h.elim (fun q => Or.inl ⟨q.1, hg _ q.2⟩) (fun q => Or.inr ⟨q.1, hg _ q.2⟩)
  · exact h
  · obtain ⟨v1, w1, h1, h2⟩ := h
    exact ⟨v1, w1, h1, hg _ h2⟩
/-- a method's table is what its bytes say -/
def zm_okT (X : zm_X) (M : zm_M) : Prop := ∀ (pc : Nat) (q : zm_I), zm_n M.2.2.2.2.2.2.2 pc = some (some q) → decode M.2.1 pc = .ok (q.1, q.2.1) ∧ zm_okB X M.2.2.1 pc q = true
theorem zm_a0_has (ad : Nat → Nat) (as : List Value) : ∀ (i k : Nat) (v : Value), zm_n (zm_a0 as) i = some (some v) → (k + i, zm_v ad v) ∈ lv_args k (as.map (zm_v ad)) := by
  induction as with
  | nil => intro i k v h; cases h
  | cons a as ih =>
    have one : ∀ b : Value, b.category ≠ 2 → ∀ (i k : Nat) (v : Value), zm_n (some b :: zm_a0 as) i = some (some v) → (k + i, zm_v ad v) ∈ lv_args k ((b :: as).map (zm_v ad)) := by
      intro b hb i k v h
      show (k + i, zm_v ad v) ∈ (k, zm_v ad b) :: lv_args (if (zm_v ad b).category = 2 then k + 2 else k + 1) (as.map (zm_v ad))
      rw [zm_v_cat, if_neg hb]
      cases i with
      | zero => cases h; exact List.mem_cons_self
      | succ i =>
        refine List.mem_cons_of_mem _ ?_
        have := ih i (k + 1) v h
        rwa [show k + 1 + i = k + (i + 1) by omega] at this
    have two : ∀ b : Value, b.category = 2 → ∀ (i k : Nat) (v : Value), zm_n (some b :: none :: zm_a0 as) i = some (some v) → (k + i, zm_v ad v) ∈ lv_args k ((b :: as).map (zm_v ad)) := by
      intro b hb i k v h
      show (k + i, zm_v ad v) ∈ (k, zm_v ad b) :: lv_args (if (zm_v ad b).category = 2 then k + 2 else k + 1) (as.map (zm_v ad))
      rw [zm_v_cat, if_pos hb]
      rcases i with _ | _ | i
      · cases h; exact List.mem_cons_self
      · cases h
      · refine List.mem_cons_of_mem _ ?_
        have := ih i (k + 2) v h
        rwa [show k + 2 + i = k + (i + 2) by omega] at this
    cases a with
    | long x => exact two _ rfl
    | double x => exact two _ rfl
    | int x => exact one _ (by simp [Value.category])
    | float x => exact one _ (by simp [Value.category])
    | null => exact one _ (by simp [Value.category])
    | ref x => exact one _ (by simp [Value.category])
    | retAddr x => exact one _ (by simp [Value.category])
theorem zm_a0_len (ad : Nat → Nat) (as : List Value) : (lg_sl (as.map (zm_v ad))).length = (zm_a0 as).length := by
  induction as with
  | nil => rfl
  | cons a as ih =>
    have e : lg_sl ((a :: as).map (zm_v ad)) = (if (zm_v ad a).category = 2 then [.val (zm_v ad a), .second] else [.val (zm_v ad a)]) ++ lg_sl (as.map (zm_v ad)) := rfl
    rw [e, List.length_append, ih, zm_v_cat]
    cases a <;> simp [Value.category, zm_a0] <;> omega
theorem zm_n_app {as : List (Option Value)} {n i : Nat} {v : Value} (h : zm_n (as ++ List.replicate n none) i = some (some v)) : zm_n as i = some (some v) := by
  rw [zm_n_eq] at h ⊢
  by_cases hi : i < as.length
  · rwa [List.getElem?_append_left hi] at h
  · rw [List.getElem?_append_right (by omega)] at h
    have := List.eq_of_mem_replicate (List.mem_of_getElem? h)
    cases this

theorem zm_rn_G {M : zm_M} (hx : p.tables.exec = Jvm.exec) (hb : c.code = M.2.1) (hml : c.maxLocals = M.2.2.1) (hr : meth.sig.returnType = M.2.2.2.1) (hlocks : meth.locks = false) (htg : ∀ x ∈ gw, x.before args s = true) (hgood : zm_goodL gw) (hNw : ∀ x ∈ nw, va_Nw x s) (hnest : ∀ x ∈ nw, zm_nest x) (hown : s.vm.findClass own = some m.cls) (hK : va_K D cl (zm_tys tc) s)
    (hX : zm_okX get cl gw nw own X) (hT : zm_okT X M) (hokc : ∀ k M', get k = some M' → zm_okM cl gw M') (IH : zm_IH l get gw nw D cl tc ad d ev) (hR : d + 1 ≤ R.frames ∧ 60 * d + 60 ≤ R.locals) (n : Nat) : ∀ t : zm_S, zm_rn ev M v0 w0 n t → zm_G p l e R s m args below meth c (MQ below (zm_Qc D cl tc ad ws0 v0 w0 s.heap.size) args s 0 0 (va_A (zm_w tc ad 0 ws0) s.heap.size)) D cl tc ad (va_A (zm_w tc ad 0 ws0) s.heap.size) M.2.2.1 ws0.length t := by
  induction n with
  | zero => intro t h; exact (show False from h).elim
  | succ n ih =>
    intro t h
    rcases h with ⟨lv, hle, h⟩ | h
    · intro H locs ls hL hP hD hS hn
      exact ih _ h H locs ls (zm_le_L hle hL) hP hD hS hn
    · obtain ⟨pc, lv, st, ws⟩ := t
      have h2 := zm_o_mono ih h
      unfold zm_nx at h2
      split at h2
      next q hq =>
        obtain ⟨h3, h4⟩ := hT pc q hq
        exact zm_step hx hb hml hr hlocks htg hgood hNw hnest hown hK rfl rfl rfl hX hokc IH hR q h3 h4 h2
      next => exact (show False from h2).elim
end ZMR
/-- A RUN OF OUR MACHINE IS A CONTRACT -/
theorem zm_met {l : Launch} {get : Nat → Option zm_M} {gw nw : List Jvm.Cond} {D : va_G} {cl : List vw_C} {tc : Nat → ClassId} {ad : Nat → Nat} (hgood : zm_goodL gw) (hnest : ∀ x ∈ nw, zm_nest x) (hokc : ∀ k M', get k = some M' → zm_okM cl gw M') (hokx : ∀ k M', get k = some M' → ∃ X, zm_okX get cl gw nw M'.1.cls X ∧ zm_okT X M') (d : Nat) : zm_IH l get gw nw D cl tc ad d (zm_ev get d) := by
  induction d with
  | zero => intro k as ws v w h; exact (show False from h).elim
  | succ d ih =>
    intro k as ws v w h M hM sz
    obtain ⟨M', n, hM', hlen, hrn⟩ := h
    cases hM.symm.trans hM'
    obtain ⟨k1, k2, k3, k4, k5, k6, -, -⟩ := hokc k M hM
    obtain ⟨X, hX, hT⟩ := hokx k M hM
    refine Met.ofW (cc := M.2.1) (maxL := M.2.2.1) (ret := M.2.2.2.1) k1 rfl ?_
    intro p e s m args below meth c s₁ B hml hv
    obtain ⟨rfl, hsz, hP, hK, hD0, hNw⟩ := hv
    have hts := atoms_spec (ws := zm_ws gw M) B.pre
    have hown : s.vm.findClass M.1.cls = some m.cls := findClass_of_methodNamed B.named
    subst hsz
    have hl := lv_entry (as.map (zm_v ad)) (n := M.2.2.1) (by rw [zm_a0_len]; exact hlen)
    rw [lg_entry_eq]
    refine zm_rn_G (ws0 := ws) (R := zm_rm (d + 1)) B.exec B.bytes hml B.returns B.notSynchronized (fun x hx => hts x (List.mem_cons_of_mem _ hx)) hgood hNw hnest hown hK hX hT hokc ih ⟨Nat.le_refl _, by show 60 * d + 60 ≤ 60 * (d + 1); omega⟩ n _ hrn s.heap [] _ ⟨hl.1, hl.2.1, fun i v hi => ?_⟩ hP hD0.self va_S.rf rfl
    have h1 := zm_a0_has ad as i 0 v (zm_n_app hi)
    rw [Nat.zero_add] at h1
    exact hl.2.2 _ h1
end
section
/-! How a run of our machine is proved: goal first, many steps at once. -/
section ZR
variable {get : Nat → Option zm_M} {d : Nat} {M : zm_M} {Q : Option Value → List zm_E → Prop}
theorem zr_step {s : zm_S} {c : Option Prop} {t : zm_S} (h : zm_nx M s = some (.inl (c, t))) (hc : zm_c c) (k : zm_Run get d M t Q) : zm_Run get d M s Q := by
  obtain ⟨n, v, w, h1, h2⟩ := k
  exact ⟨n + 1, v, w, Or.inr (by rw [h]; exact ⟨hc, h1⟩), h2⟩
theorem zr_go {s t : zm_S} (n : Nat) (h : zm_un M n s = some t) (k : zm_Run get d M t Q) : zm_Run get d M s Q := by
  induction n generalizing s with
  | zero => cases h; exact k
  | succ n ih =>
    unfold zm_un at h
    split at h
    next t1 h1 => exact zr_step h1 trivial (ih h)
    next => cases h
theorem zr_cd {s t : zm_S} {c : Prop} (h : zm_nx M s = some (.inl (some c, t))) (hc : c) (k : zm_Run get d M t Q) : zm_Run get d M s Q := zr_step h hc k
theorem zr_if {s t f : zm_S} {c : Prop} (h : zm_nx M s = some (.inr (.inl (c, t, f)))) (k1 : c → zm_Run get d M t Q) (k2 : ¬ c → zm_Run get d M f Q) : zm_Run get d M s Q := by
  by_cases hc : c
  · obtain ⟨n, v, w, h1, h2⟩ := k1 hc
    exact ⟨n + 1, v, w, Or.inr (by rw [h]; exact Or.inl ⟨hc, h1⟩), h2⟩
  · obtain ⟨n, v, w, h1, h2⟩ := k2 hc
    exact ⟨n + 1, v, w, Or.inr (by rw [h]; exact Or.inr ⟨hc, h1⟩), h2⟩
theorem zr_ret {s : zm_S} {c : Prop} {v : Option Value} {w : List zm_E} (h : zm_nx M s = some (.inr (.inr (.inl (c, v, w))))) (hc : c) (hQ : Q v w) : zm_Run get d M s Q :=
  ⟨1, v, w, Or.inr (by rw [h]; exact ⟨hc, rfl, rfl⟩), hQ⟩
theorem zr_forget {s : zm_S} (lv : List (Option Value)) (h : zm_le lv s.2.1) (k : zm_Run get d M (s.1, lv, s.2.2) Q) : zm_Run get d M s Q := by
  obtain ⟨n, v, w, h1, h2⟩ := k
  exact ⟨n + 1, v, w, Or.inl ⟨lv, h, h1⟩, h2⟩
theorem zr_post {s : zm_S} {Q' : Option Value → List zm_E → Prop} (k : zm_Run get d M s Q') (h : ∀ v w, Q' v w → Q v w) : zm_Run get d M s Q := by
  obtain ⟨n, v, w, h1, h2⟩ := k
  exact ⟨n, v, w, h1, h v w h2⟩
theorem zm_o_ev {e1 e2 : Nat → List Value → List zm_E → Option Value → List zm_E → Prop} {g1 g2 : zm_S → Prop} {v : Option Value} {w : List zm_E} {r : zm_R} (he : ∀ k as ws v w, e1 k as ws v w → e2 k as ws v w) (hg : ∀ t, g1 t → g2 t) (h : zm_o e1 g1 v w r) : zm_o e2 g2 v w r := by
  rcases r with _ | ⟨⟨c, t⟩ | ⟨c, t, f⟩ | ⟨c, v0, w0⟩ | ⟨k, as, t⟩⟩
  · exact h
  · exact ⟨h.1, hg _ h.2⟩
  · exact h.elim (fun q => Or.inl ⟨q.1, hg _ q.2⟩) (fun q => Or.inr ⟨q.1, hg _ q.2⟩)
  · exact h
  · obtain ⟨v1, w1, h1, h2⟩ := h
    exact ⟨v1, w1, he _ _ _ _ _ h1, hg _ h2⟩
theorem zm_rn_ev {e1 e2 : Nat → List Value → List zm_E → Option Value → List zm_E → Prop} {v : Option Value} {w : List zm_E} (he : ∀ k as ws v w, e1 k as ws v w → e2 k as ws v w) (n : Nat) : ∀ s, zm_rn e1 M v w n s → zm_rn e2 M v w n s := by
  induction n with
  | zero => intro s h; exact h
  | succ n ih =>
    intro s h
    rcases h with ⟨lv, h1, h2⟩ | h
    · exact Or.inl ⟨lv, h1, ih _ h2⟩
    · exact Or.inr (zm_o_ev he ih h)
theorem zm_ev_up (d : Nat) : ∀ k as ws v w, zm_ev get d k as ws v w → zm_ev get (d + 1) k as ws v w := by
  induction d with
  | zero => intro k as ws v w h; exact (show False from h).elim
  | succ d ih =>
    intro k as ws v w h
    obtain ⟨M, n, h1, h2, h3⟩ := h
    exact ⟨M, n, h1, h2, zm_rn_ev ih n _ h3⟩
theorem zm_ev_le {d d' : Nat} (h : d ≤ d') {k : Nat} {as : List Value} {ws : List zm_E} {v : Option Value} {w : List zm_E} (he : zm_ev get d k as ws v w) : zm_ev get d' k as ws v w := by
  induction h with
  | refl => exact he
  | step _ ih => exact zm_ev_up _ _ _ _ _ _ ih
/-- a call: the callee's own row, at a depth that is small enough -/
theorem zr_call {s t : zm_S} {k d' : Nat} {as : List Value} {P : Option Value → List zm_E → Prop} (h : zm_nx M s = some (.inr (.inr (.inr (k, as, t))))) (hd : d' ≤ d) (he : zm_Ev get d' k as t.2.2.2 P) (kk : ∀ v w, P v w → zm_Run get d M (t.1, t.2.1, v.toList ++ t.2.2.1, w) Q) : zm_Run get d M s Q := by
  obtain ⟨v1, w1, h1, h2⟩ := he
  obtain ⟨n, v, w, h3, h4⟩ := kk v1 w1 h2
  exact ⟨n + 1, v, w, Or.inr (by rw [h]; exact ⟨v1, w1, zm_ev_le hd h1, h3⟩), h4⟩
theorem zr_ev {k : Nat} {as : List Value} {ws : List zm_E} (M : zm_M) (hM : get k = some M) (hl : Nat.ble (zm_a0 as).length M.2.2.1 = true) (h : zm_Run get d M (zm_in M as ws) Q) : zm_Ev get (d + 1) k as ws Q := by
  obtain ⟨n, v, w, h1, h2⟩ := h
  exact ⟨v, w, ⟨M, n, hM, Nat.le_of_ble_eq_true hl, h1⟩, h2⟩
theorem zr_evp {k : Nat} {as : List Value} {ws : List zm_E} {Q' : Option Value → List zm_E → Prop} (h : zm_Ev get d k as ws Q') (hq : ∀ v w, Q' v w → Q v w) : zm_Ev get d k as ws Q := by
  obtain ⟨v, w, h1, h2⟩ := h
  exact ⟨v, w, h1, hq v w h2⟩
/-- what two rows say of one run goes together: our machine has one answer only where this is used through 'zr_evp' -/
theorem zr_up {k d' : Nat} {as : List Value} {ws : List zm_E} (hd : d' ≤ d) (h : zm_Ev get d' k as ws Q) : zm_Ev get d k as ws Q := by
  obtain ⟨v, w, h1, h2⟩ := h
  exact ⟨v, w, zm_ev_le hd h1, h2⟩
end ZR
end
