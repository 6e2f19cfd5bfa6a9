/-! A MACHINE OF OUR OWN over pictures: values whose references are places in a list of cells, one step a function, methods by number. -/
def zm_v (ad : Nat → Nat) : Value → Value
  | .ref i => .ref (ad i)
  | v => v
abbrev zm_E : Type := (Nat × vp_A) ⊕ (Nat × List Value)
def zm_e (tc : Nat → ClassId) (ad : Nat → Nat) : zm_E → va_E
  | .inl a => .inl (tc a.1, a.2)
  | .inr o => .inr (o.1, o.2.map (zm_v ad))
def zm_w (tc : Nat → ClassId) (ad : Nat → Nat) : Nat → List zm_E → va_W
  | _, [] => []
  | i, x :: l => (ad i, zm_e tc ad x) :: zm_w tc ad (i + 1) l
def zm_n {α : Type} : List α → Nat → Option α
  | [], _ => none
  | a :: _, 0 => some a
  | _ :: l, n + 1 => zm_n l n
abbrev zm_S : Type := Nat × List (Option Value) × List Value × List zm_E
abbrev zm_R : Type := Option ((Option Prop × zm_S) ⊕ ((Prop × zm_S × zm_S) ⊕ ((Prop × Option Value × List zm_E) ⊕ (Nat × List Value × zm_S))))
def zm_r0 (s : zm_S) : zm_R := some (.inl (none, s))
def zm_r1 (c : Prop) (s : zm_S) : zm_R := some (.inl (some c, s))
def zm_c : Option Prop → Prop
  | none => True
  | some c => c
def zm_r2 (c : Prop) (s t : zm_S) : zm_R := some (.inr (.inl (c, s, t)))
def zm_r3 (c : Prop) (v : Option Value) (w : List zm_E) : zm_R := some (.inr (.inr (.inl (c, v, w))))
def zm_r4 (k : Nat) (as : List Value) (s : zm_S) : zm_R := some (.inr (.inr (.inr (k, as, s))))
/-- an instruction: itself, its length, a number, a long, three numbers (a local's place, a target, a class and a field, a method and its arguments and its class) -/
abbrev zm_I : Type := Instr × Nat × Int32 × Int64 × Nat × Nat × Nat
/-- a method: name, bytes, locals, answer, parameters, static or not, its class's number, its instructions by their places -/
abbrev zm_M : Type := MethodName × ByteArray × Nat × Option FieldType × Nat × Bool × Nat × List (Option zm_I)
/-- a local is stored: a long in front of it is gone -/
def zm_k (lv : List (Option Value)) : Nat → List (Option Value)
  | 0 => lv
  | j + 1 => match zm_n lv j with
    | some (some (.long _)) => lv.set j none
    | some (some (.double _)) => lv.set j none
    | _ => lv
def zm_s1 (lv : List (Option Value)) (i : Nat) (v : Value) : List (Option Value) := (zm_k lv i).set i (some v)
def zm_s2 (lv : List (Option Value)) (i : Nat) (v : Value) : List (Option Value) := ((zm_k lv i).set (i + 1) none).set i (some v)
def zm_sw (pc : Nat) (d lo hi : Int) (offs : Array Int) (x : Int32) : Nat := if x.toInt < lo ∨ hi < x.toInt then ((pc : Int) + d).toNat else ((pc : Int) + (offs[(x.toInt - lo).toNat]?).getD 0).toNat
section ZMX
variable (pc : Nat) (lv : List (Option Value)) (ws : List zm_E)
def zm_xi2 (f : Int32 → Int32 → Int32) : List Value → zm_R
  | .int y :: .int x :: r => zm_r0 (pc, lv, .int (f x y) :: r, ws)
  | _ => none
def zm_xd2 (f : Int32 → Int32 → Int32) : List Value → zm_R
  | .int y :: .int x :: r => zm_r1 (¬ y = 0) (pc, lv, .int (f x y) :: r, ws)
  | _ => none
def zm_xl2 (f : Int64 → Int64 → Int64) : List Value → zm_R
  | .long y :: .long x :: r => zm_r0 (pc, lv, .long (f x y) :: r, ws)
  | _ => none
def zm_xm2 (f : Int64 → Int64 → Int64) : List Value → zm_R
  | .long y :: .long x :: r => zm_r1 (¬ y = 0) (pc, lv, .long (f x y) :: r, ws)
  | _ => none
def zm_xs2 (f : Int64 → Int32 → Int64) : List Value → zm_R
  | .int y :: .long x :: r => zm_r0 (pc, lv, .long (f x y) :: r, ws)
  | _ => none
/-- a branch on one number: to where, if .. -/
def zm_b1 (f : Int32 → Prop) (u : Nat) : List Value → zm_R
  | .int x :: r => zm_r2 (f x) (u, lv, r, ws) (pc, lv, r, ws)
  | _ => none
def zm_b2 (f : Int32 → Int32 → Prop) (u : Nat) : List Value → zm_R
  | .int y :: .int x :: r => zm_r2 (f x y) (u, lv, r, ws) (pc, lv, r, ws)
  | _ => none
def zm_b1n (u : Nat) : List Value → zm_R
  | .int x :: r => zm_r2 (x = 0) (pc, lv, r, ws) (u, lv, r, ws)
  | _ => none
def zm_b2n (u : Nat) : List Value → zm_R
  | .int y :: .int x :: r => zm_r2 (x = y) (pc, lv, r, ws) (u, lv, r, ws)
  | _ => none
def zm_xld (st : List Value) (t : Nat) : Option (Option Value) → zm_R
  | some (some (.int x)) => match t with
    | 0 => zm_r0 (pc, lv, .int x :: st, ws)
    | _ => none
  | some (some (.long x)) => match t with
    | 1 => zm_r0 (pc, lv, .long x :: st, ws)
    | _ => none
  | some (some (.ref x)) => match t with
    | 2 => zm_r0 (pc, lv, .ref x :: st, ws)
    | _ => none
  | _ => none
def zm_xsi (u : Nat) : List Value → zm_R
  | .int x :: r => zm_r0 (pc, zm_s1 lv u (.int x), r, ws)
  | _ => none
def zm_xsl (u : Nat) : List Value → zm_R
  | .long x :: r => zm_r0 (pc, zm_s2 lv u (.long x), r, ws)
  | _ => none
def zm_xsa (u : Nat) : List Value → zm_R
  | .ref x :: r => zm_r0 (pc, zm_s1 lv u (.ref x), r, ws)
  | _ => none
def zm_xinc (st : List Value) (u : Nat) (c : Int32) : Option (Option Value) → zm_R
  | some (some (.int x)) => zm_r0 (pc, zm_s1 lv u (.int (x + c)), st, ws)
  | _ => none
def zm_xget (r : List Value) (u w : Nat) : Option zm_E → zm_R
  | some (.inr (ci, fs)) => match Nat.beq ci u with
    | true => match zm_n fs w with
      | some v => zm_r0 (pc, lv, v :: r, ws)
      | none => none
    | false => none
  | _ => none
/-- a field's type: 0 int, 1 long, 2 boolean -/
def zm_xput (a : Nat) (r : List Value) (u w : Nat) (v : Value) (P : Option Prop) : Option zm_E → zm_R
  | some (.inr (ci, fs)) => match Nat.beq ci u with
    | true => match Nat.ble (w + 1) fs.length with
      | true => some (.inl (P, (pc, lv, r, ws.set a (.inr (ci, fs.set w v)))))
      | false => none
    | false => none
  | _ => none
def zm_xput0 (u w z : Nat) : List Value → zm_R
  | .int x :: .ref a :: r => match z with
    | 0 => zm_xput pc lv ws a r u w (.int x) none (zm_n ws a)
    | 2 => zm_xput pc lv ws a r u w (.int x) (some (x = 0 ∨ x = 1)) (zm_n ws a)
    | _ => none
  | .long x :: .ref a :: r => match z with
    | 1 => zm_xput pc lv ws a r u w (.long x) none (zm_n ws a)
    | _ => none
  | _ => none
def zm_xald (r : List Value) (i : Int32) (t : Nat) : Option zm_E → zm_R
  | some (.inl (k, n, .inl f)) => match Nat.beq k t with
    | true => zm_r1 (vp_in i n) (pc, lv, .int (f i.toNatClampNeg) :: r, ws)
    | false => none
  | _ => none
def zm_xlald (r : List Value) (i : Int32) : Option zm_E → zm_R
  | some (.inl (k, n, .inr (.inl f))) => match Nat.beq k 1 with
    | true => zm_r1 (vp_in i n) (pc, lv, .long (f i.toNatClampNeg) :: r, ws)
    | false => none
  | _ => none
def zm_xast (a : Nat) (r : List Value) (i x : Int32) (t : Nat) : Option zm_E → zm_R
  | some (.inl (k, n, .inl f)) => match Nat.beq k t with
    | true => zm_r1 (vp_in i n) (pc, lv, r, ws.set a (.inl (k, n, .inl (upd f i.toNatClampNeg x))))
    | false => none
  | _ => none
def zm_xlast (a : Nat) (r : List Value) (i : Int32) (x : Int64) : Option zm_E → zm_R
  | some (.inl (k, n, .inr (.inl f))) => match Nat.beq k 1 with
    | true => zm_r1 (vp_in i n) (pc, lv, r, ws.set a (.inl (k, n, .inr (.inl (vp_updL f i.toNatClampNeg x)))))
    | false => none
  | _ => none
def zm_al (t : Nat) : List Value → zm_R
  | .int i :: .ref a :: r => zm_xald pc lv ws r i t (zm_n ws a)
  | _ => none
def zm_lal : List Value → zm_R
  | .int i :: .ref a :: r => zm_xlald pc lv ws r i (zm_n ws a)
  | _ => none
def zm_as (t : Nat) (g : Int32 → Int32) : List Value → zm_R
  | .int x :: .int i :: .ref a :: r => zm_xast pc lv ws a r i (g x) t (zm_n ws a)
  | _ => none
def zm_las : List Value → zm_R
  | .long x :: .int i :: .ref a :: r => zm_xlast pc lv ws a r i x (zm_n ws a)
  | _ => none
def zm_gf (u w : Nat) : List Value → zm_R
  | .ref a :: r => zm_xget pc lv ws r u w (zm_n ws a)
  | _ => none
def zm_cv2 (b : Nat) (r as : List Value) (u z : Nat) : Option zm_E → zm_R
  | some (.inr (ci, _)) => match Nat.beq ci z with
    | true => match Nat.ble ((r.map fun v => v.category).sum) 8 with
      | true => zm_r4 u (.ref b :: as.reverse) (pc, lv, r, ws)
      | false => none
    | false => none
  | _ => none
def zm_cv (u z : Nat) (as : List Value) : List Value → zm_R
  | .ref b :: r => zm_cv2 pc lv ws b r as u z (zm_n ws b)
  | _ => none
/-- an array of numbers is copied into another one, from the first place on (arraycopy, n numbers) -/
def zm_cpy2 (a : Nat) (r : List Value) (n : Int32) (f : Nat → Int32) (n0 : Nat) : Option zm_E → zm_R
  | some (.inl (k, n1, .inl g)) => match Nat.beq k 0 with
    | true => zm_r1 (¬ n < 0 ∧ n.toNatClampNeg ≤ n0 ∧ n.toNatClampNeg ≤ n1) (pc, lv, r, ws.set a (.inl (k, n1, .inl (va_cpy f g 0 0 n.toNatClampNeg))))
    | false => none
  | _ => none
def zm_cpy1 (a : Nat) (r : List Value) (n : Int32) : Option zm_E → zm_R
  | some (.inl (k, n0, .inl f)) => match Nat.beq k 0 with
    | true => zm_cpy2 pc lv ws a r n f n0 (zm_n ws a)
    | false => none
  | _ => none
def zm_cpy : List Value → zm_R
  | .int n :: .int dp :: .ref a :: .int sp :: .ref a0 :: r => match decide (dp = 0 ∧ sp = 0) with
    | true => match Nat.ble ((r.map fun v => v.category).sum) 8 with
      | true => zm_cpy1 pc lv ws a r n (zm_n ws a0)
      | false => none
    | false => none
  | _ => none
/-- Math.min -/
def zm_min : List Value → zm_R
  | .int y :: .int x :: r => match Nat.ble ((r.map fun v => v.category).sum) 8 with
    | true => zm_r0 (pc, lv, .int (if y < x then y else x) :: r, ws)
    | false => none
  | _ => none
def zm_cs (u w : Nat) (st : List Value) : zm_R := match Nat.ble w st.length with
  | true => match Nat.ble (((st.drop w).map fun v => v.category).sum) 8 with
    | true => zm_r4 u (st.take w).reverse (pc, lv, st.drop w, ws)
    | false => none
  | false => none
def zm_dup : List Value → zm_R
  | a :: r => match Nat.beq a.category 1 with
    | true => zm_r0 (pc, lv, a :: a :: r, ws)
    | false => none
  | _ => none
def zm_dup2 : List Value → zm_R
  | a :: b :: r => match Nat.beq a.category 1 with
    | true => match Nat.beq b.category 1 with
      | true => zm_r0 (pc, lv, a :: b :: a :: b :: r, ws)
      | false => none
    | false => none
  | _ => none
def zm_ri (rt : Option FieldType) : List Value → zm_R
  | [.int x] => match rt with
    | some .int => zm_r3 True (some (.int x)) ws
    | some .boolean => zm_r3 (x = 0 ∨ x = 1) (some (.int x)) ws
    | _ => none
  | _ => none
def zm_rl (rt : Option FieldType) : List Value → zm_R
  | [.long x] => match rt with
    | some .long => zm_r3 True (some (.long x)) ws
    | _ => none
  | _ => none
def zm_ra (rt : Option FieldType) : List Value → zm_R
  | [.ref x] => match rt with
    | some (.object _) => zm_r3 True (some (.ref x)) ws
    | _ => none
  | _ => none
def zm_rv (rt : Option FieldType) : List Value → zm_R
  | [] => match rt with
    | none => zm_r3 True none ws
    | _ => none
  | _ => none
def zm_xsw (pc0 : Nat) (d lo hi : Int) (offs : Array Int) : List Value → zm_R
  | .int x :: r => zm_r0 (zm_sw pc0 d lo hi offs x, lv, r, ws)
  | _ => none
def zm_x1 (f : Int32 → Int32) : List Value → zm_R
  | .int x :: r => zm_r0 (pc, lv, .int (f x) :: r, ws)
  | _ => none
def zm_x1l (f : Int64 → Int64) : List Value → zm_R
  | .long x :: r => zm_r0 (pc, lv, .long (f x) :: r, ws)
  | _ => none
def zm_xi2l : List Value → zm_R
  | .int x :: r => zm_r0 (pc, lv, .long x.toInt64 :: r, ws)
  | _ => none
def zm_xl2i : List Value → zm_R
  | .long x :: r => zm_r0 (pc, lv, .int x.toInt32 :: r, ws)
  | _ => none
def zm_xcmp : List Value → zm_R
  | .long y :: .long x :: r => zm_r0 (pc, lv, .int (lg_cmp x y) :: r, ws)
  | _ => none
end ZMX
/-- one step -/
def zm_x (rt : Option FieldType) (q : zm_I) (pc : Nat) (lv : List (Option Value)) (st : List Value) (ws : List zm_E) : zm_R :=
  match q.1 with
  | .iconst _ => zm_r0 (pc + q.2.1, lv, .int q.2.2.1 :: st, ws)
  | .bipush _ => zm_r0 (pc + q.2.1, lv, .int q.2.2.1 :: st, ws)
  | .sipush _ => zm_r0 (pc + q.2.1, lv, .int q.2.2.1 :: st, ws)
  | .ldc _ => zm_r0 (pc + q.2.1, lv, .int q.2.2.1 :: st, ws)
  | .ldc_w _ => zm_r0 (pc + q.2.1, lv, .int q.2.2.1 :: st, ws)
  | .lconst _ => zm_r0 (pc + q.2.1, lv, .long q.2.2.2.1 :: st, ws)
  | .ldc2_w _ => zm_r0 (pc + q.2.1, lv, .long q.2.2.2.1 :: st, ws)
  | .iload_n _ => zm_xld (pc + q.2.1) lv ws st 0 (zm_n lv q.2.2.2.2.1)
  | .iload _ => zm_xld (pc + q.2.1) lv ws st 0 (zm_n lv q.2.2.2.2.1)
  | .lload_n _ => zm_xld (pc + q.2.1) lv ws st 1 (zm_n lv q.2.2.2.2.1)
  | .lload _ => zm_xld (pc + q.2.1) lv ws st 1 (zm_n lv q.2.2.2.2.1)
  | .aload_n _ => zm_xld (pc + q.2.1) lv ws st 2 (zm_n lv q.2.2.2.2.1)
  | .aload _ => zm_xld (pc + q.2.1) lv ws st 2 (zm_n lv q.2.2.2.2.1)
  | .istore_n _ => zm_xsi (pc + q.2.1) lv ws q.2.2.2.2.1 st
  | .istore _ => zm_xsi (pc + q.2.1) lv ws q.2.2.2.2.1 st
  | .lstore_n _ => zm_xsl (pc + q.2.1) lv ws q.2.2.2.2.1 st
  | .lstore _ => zm_xsl (pc + q.2.1) lv ws q.2.2.2.2.1 st
  | .astore_n _ => zm_xsa (pc + q.2.1) lv ws q.2.2.2.2.1 st
  | .astore _ => zm_xsa (pc + q.2.1) lv ws q.2.2.2.2.1 st
  | .iinc _ _ => zm_xinc (pc + q.2.1) lv ws st q.2.2.2.2.1 q.2.2.1 (zm_n lv q.2.2.2.2.1)
  | .iadd => zm_xi2 (pc + q.2.1) lv ws (fun x y => x + y) st
  | .isub => zm_xi2 (pc + q.2.1) lv ws (fun x y => x - y) st
  | .imul => zm_xi2 (pc + q.2.1) lv ws (fun x y => x * y) st
  | .iand => zm_xi2 (pc + q.2.1) lv ws (fun x y => x &&& y) st
  | .ishl => zm_xi2 (pc + q.2.1) lv ws (fun x y => x <<< (y &&& 31)) st
  | .idiv => zm_xd2 (pc + q.2.1) lv ws (fun x y => x / y) st
  | .irem => zm_xd2 (pc + q.2.1) lv ws (fun x y => x - x / y * y) st
  | .ineg => zm_x1 (pc + q.2.1) lv ws (fun x => -x) st
  | .ladd => zm_xl2 (pc + q.2.1) lv ws (fun x y => x + y) st
  | .lsub => zm_xl2 (pc + q.2.1) lv ws (fun x y => x - y) st
  | .lmul => zm_xl2 (pc + q.2.1) lv ws (fun x y => x * y) st
  | .land => zm_xl2 (pc + q.2.1) lv ws (fun x y => x &&& y) st
  | .lor => zm_xl2 (pc + q.2.1) lv ws (fun x y => x ||| y) st
  | .lxor => zm_xl2 (pc + q.2.1) lv ws (fun x y => x ^^^ y) st
  | .ldiv => zm_xm2 (pc + q.2.1) lv ws (fun x y => x / y) st
  | .lrem => zm_xm2 (pc + q.2.1) lv ws (fun x y => x - x / y * y) st
  | .lneg => zm_x1l (pc + q.2.1) lv ws (fun x => -x) st
  | .lshl => zm_xs2 (pc + q.2.1) lv ws (fun x y => x <<< (y.toInt64 &&& 63)) st
  | .lshr => zm_xs2 (pc + q.2.1) lv ws (fun x y => x >>> (y.toInt64 &&& 63)) st
  | .lushr => zm_xs2 (pc + q.2.1) lv ws (fun x y => (x.toUInt64 >>> (y.toInt64.toUInt64 &&& Int64.toUInt64 63)).toInt64) st
  | .i2l => zm_xi2l (pc + q.2.1) lv ws st
  | .l2i => zm_xl2i (pc + q.2.1) lv ws st
  | .lcmp => zm_xcmp (pc + q.2.1) lv ws st
  | .dup => zm_dup (pc + q.2.1) lv ws st
  | .dup2 => zm_dup2 (pc + q.2.1) lv ws st
  | .ifCond k _ => match k with
    | .eq => zm_b1 (pc + q.2.1) lv ws (fun x => x = 0) q.2.2.2.2.1 st
    | .ne => zm_b1n (pc + q.2.1) lv ws q.2.2.2.2.1 st
    | .lt => zm_b1 (pc + q.2.1) lv ws (fun x => x < 0) q.2.2.2.2.1 st
    | .ge => zm_b1 (pc + q.2.1) lv ws (fun x => 0 ≤ x) q.2.2.2.2.1 st
    | .gt => zm_b1 (pc + q.2.1) lv ws (fun x => 0 < x) q.2.2.2.2.1 st
    | .le => zm_b1 (pc + q.2.1) lv ws (fun x => x ≤ 0) q.2.2.2.2.1 st
  | .if_icmp k _ => match k with
    | .eq => zm_b2 (pc + q.2.1) lv ws (fun x y => x = y) q.2.2.2.2.1 st
    | .ne => zm_b2n (pc + q.2.1) lv ws q.2.2.2.2.1 st
    | .lt => zm_b2 (pc + q.2.1) lv ws (fun x y => x < y) q.2.2.2.2.1 st
    | .ge => zm_b2 (pc + q.2.1) lv ws (fun x y => y ≤ x) q.2.2.2.2.1 st
    | .gt => zm_b2 (pc + q.2.1) lv ws (fun x y => y < x) q.2.2.2.2.1 st
    | .le => zm_b2 (pc + q.2.1) lv ws (fun x y => x ≤ y) q.2.2.2.2.1 st
  | .goto _ => zm_r0 (q.2.2.2.2.1, lv, st, ws)
  | .tableswitch d lo hi offs => zm_xsw lv ws pc d lo hi offs st
  | .getfield _ => zm_gf (pc + q.2.1) lv ws q.2.2.2.2.1 q.2.2.2.2.2.1 st
  | .putfield _ => zm_xput0 (pc + q.2.1) lv ws q.2.2.2.2.1 q.2.2.2.2.2.1 q.2.2.2.2.2.2 st
  | .iaload => zm_al (pc + q.2.1) lv ws 0 st
  | .baload => zm_al (pc + q.2.1) lv ws 2 st
  | .laload => zm_lal (pc + q.2.1) lv ws st
  | .iastore => zm_as (pc + q.2.1) lv ws 0 (fun x => x) st
  | .bastore => zm_as (pc + q.2.1) lv ws 2 (vp_nar .boolean) st
  | .lastore => zm_las (pc + q.2.1) lv ws st
  | .invokevirtual _ => zm_cv (pc + q.2.1) lv ws q.2.2.2.2.1 q.2.2.2.2.2.2 (st.take q.2.2.2.2.2.1) (st.drop q.2.2.2.2.2.1)
  | .invokestatic _ => match Nat.beq q.2.2.2.2.2.2 99 with
    | true => zm_cpy (pc + q.2.1) lv ws st
    | false => match Nat.beq q.2.2.2.2.2.2 98 with
      | true => zm_min (pc + q.2.1) lv ws st
      | false => zm_cs (pc + q.2.1) lv ws q.2.2.2.2.1 q.2.2.2.2.2.1 st
  | .ireturn => zm_ri ws rt st
  | .lreturn => zm_rl ws rt st
  | .areturn => zm_ra ws rt st
  | .return_ => zm_rv ws rt st
  | _ => none
def zm_nx (M : zm_M) (s : zm_S) : zm_R := match zm_n M.2.2.2.2.2.2.2 s.1 with
  | some (some q) => zm_x M.2.2.2.1 q s.1 s.2.1 s.2.2.1 s.2.2.2
  | _ => none
/-- fewer known locals -/
def zm_le : List (Option Value) → List (Option Value) → Prop
  | [], [] => True
  | a :: l, b :: m => (a = none ∨ a = b) ∧ zm_le l m
  | _, _ => False
def zm_o (ev : Nat → List Value → List zm_E → Option Value → List zm_E → Prop) (go : zm_S → Prop) (v : Option Value) (w : List zm_E) : zm_R → Prop
  | some (.inl (c, t)) => zm_c c ∧ go t
  | some (.inr (.inl (c, t, f))) => (c ∧ go t) ∨ (¬ c ∧ go f)
  | some (.inr (.inr (.inl (c, v0, w0)))) => c ∧ v = v0 ∧ w = w0
  | some (.inr (.inr (.inr (k, as, t)))) => ∃ v1 w1, ev k as t.2.2.2 v1 w1 ∧ go (t.1, t.2.1, v1.toList ++ t.2.2.1, w1)
  | none => False
def zm_rn (ev : Nat → List Value → List zm_E → Option Value → List zm_E → Prop) (M : zm_M) (v : Option Value) (w : List zm_E) : Nat → zm_S → Prop
  | 0, _ => False
  | n + 1, s => (∃ lv, zm_le lv s.2.1 ∧ zm_rn ev M v w n (s.1, lv, s.2.2)) ∨ zm_o ev (zm_rn ev M v w n) v w (zm_nx M s)
/-- the locals at the start -/
def zm_a0 : List Value → List (Option Value)
  | [] => []
  | .long x :: l => some (.long x) :: none :: zm_a0 l
  | .double x :: l => some (.double x) :: none :: zm_a0 l
  | v :: l => some v :: zm_a0 l
def zm_in (M : zm_M) (as : List Value) (ws : List zm_E) : zm_S := (0, zm_a0 as ++ List.replicate (M.2.2.1 - (zm_a0 as).length) none, [], ws)
def zm_ev (get : Nat → Option zm_M) : Nat → Nat → List Value → List zm_E → Option Value → List zm_E → Prop
  | 0, _, _, _, _, _ => False
  | d + 1, k, as, ws, v, w => ∃ M n, get k = some M ∧ (zm_a0 as).length ≤ M.2.2.1 ∧ zm_rn (zm_ev get d) M v w n (zm_in M as ws)
def zm_Run (get : Nat → Option zm_M) (d : Nat) (M : zm_M) (s : zm_S) (Q : Option Value → List zm_E → Prop) : Prop := ∃ n v w, zm_rn (zm_ev get d) M v w n s ∧ Q v w
def zm_Ev (get : Nat → Option zm_M) (d : Nat) (k : Nat) (as : List Value) (ws : List zm_E) (Q : Option Value → List zm_E → Prop) : Prop := ∃ v w, zm_ev get d k as ws v w ∧ Q v w
/-- n steps that ask nothing -/
def zm_un (M : zm_M) : Nat → zm_S → Option zm_S
  | 0, s => some s
  | n + 1, s => match zm_nx M s with
    | some (.inl (none, t)) => zm_un M n t
    | _ => none
