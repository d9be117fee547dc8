/-! THE ABSTRACT MACHINE: values are whole numbers (int, long, a reference by the number of its cell, -1: null), a state is a shape (what each cell is) and the numbers in its places; a method's code is rows of decoded instructions by label. sx_go: what must hold so that a run from a label comes to an end with R, through the cuts K. -/
abbrev sx_V : Type := Int ⊕ Int ⊕ Int
abbrev sx_S : Type := Int → Int → Int
abbrev sx_L : Type := List (Option sx_V)
abbrev sx_H : Type := List (Nat × Nat)
abbrev sx_I : Type := Nat × Instr × List Nat
abbrev sx_R : Type := Option sx_V → sx_H → sx_S → Prop
abbrev sx_C : Type := Nat → List sx_V → sx_H → sx_S → sx_R → Prop
abbrev sx_K : Type := sx_L → List sx_V → sx_H → sx_S → Prop
def sx_up (σ : sx_S) (a i v : Int) : sx_S := fun a' i' => if a' = a ∧ i' = i then v else σ a' i'
def sx_cp (σ : sx_S) (a i b j n : Int) : sx_S := fun a' i' => if a' = b ∧ j ≤ i' ∧ i' < j + n then σ a (i + (i' - j)) else σ a' i'
def sx_z (σ : sx_S) (a : Int) (v : Int) : sx_S := fun a' i' => if a' = a then v else σ a' i'
def sx_lk (sh : sx_H) (a : Int) : Nat × Nat := if a < 0 then (9, 0) else (sh[a.toNat]?).getD (9, 0)
abbrev sx_r32 (x : Int) : Prop := -2147483648 ≤ x ∧ x ≤ 2147483647
abbrev sx_r64 (x : Int) : Prop := -9223372036854775808 ≤ x ∧ x ≤ 9223372036854775807
def sx_and (x y : Int) : Int := (Int32.ofInt x &&& Int32.ofInt y).toInt
def sx_or (x y : Int) : Int := (Int32.ofInt x ||| Int32.ofInt y).toInt
def sx_shl (x y : Int) : Int := (Int32.ofInt x <<< (Int32.ofInt y &&& 31)).toInt
def sx_shr (x y : Int) : Int := (Int32.ofInt x >>> (Int32.ofInt y &&& 31)).toInt
def sx_andL (x y : Int) : Int := (Int64.ofInt x &&& Int64.ofInt y).toInt
def sx_orL (x y : Int) : Int := (Int64.ofInt x ||| Int64.ofInt y).toInt
def sx_xorL (x y : Int) : Int := (Int64.ofInt x ^^^ Int64.ofInt y).toInt
def sx_shlL (x y : Int) : Int := (Int64.ofInt x <<< ((Int32.ofInt y).toInt64 &&& 63)).toInt
def sx_shrL (x y : Int) : Int := (Int64.ofInt x >>> ((Int32.ofInt y).toInt64 &&& 63)).toInt
def sx_ushrL (x y : Int) : Int := ((Int64.ofInt x).toUInt64 >>> ((Int32.ofInt y).toInt64.toUInt64 &&& Int64.toUInt64 63)).toInt64.toInt
def sx_b8 (x : Int) : Int := (Int32.ofInt x).toInt8.toInt32.toInt
def sx_cmp (x y : Int) : Int := if y < x then 1 else if x = y then 0 else -1
def sx_cc (c : ClassFile.Cond) (x y : Int) : Prop := match c with
  | .eq => x = y
  | .ne => ¬ x = y
  | .lt => x < y
  | .ge => y ≤ x
  | .gt => y < x
  | .le => x ≤ y
def sx_pI (st : List sx_V) (k : Int → List sx_V → Prop) : Prop := match st with
  | .inl x :: r => k x r
  | _ => False
def sx_pJ (st : List sx_V) (k : Int → List sx_V → Prop) : Prop := match st with
  | .inr (.inl x) :: r => k x r
  | _ => False
def sx_pA (st : List sx_V) (k : Int → List sx_V → Prop) : Prop := match st with
  | .inr (.inr x) :: r => k x r
  | _ => False
def sx_lI (L : sx_L) (i : Nat) (k : Int → Prop) : Prop := match L[i]? with
  | some (some (.inl x)) => k x
  | _ => False
def sx_lJ (L : sx_L) (i : Nat) (k : Int → Prop) : Prop := match L[i]? with
  | some (some (.inr (.inl x))) => k x
  | _ => False
def sx_lA (L : sx_L) (i : Nat) (k : Int → Prop) : Prop := match L[i]? with
  | some (some (.inr (.inr x))) => k x
  | _ => False
/-- a long at i - 1 is spoilt by a store at i -/
def sx_kl (L : sx_L) (i : Nat) : sx_L := match i with
  | 0 => L
  | j + 1 => match L[j]? with
    | some (some (.inr (.inl _))) => L.set j none
    | _ => L
def sx_set (L : sx_L) (i : Nat) (v : sx_V) : sx_L := (sx_kl L i).set i (some v)
def sx_setJ (L : sx_L) (i : Nat) (x : Int) : sx_L := ((sx_kl L i).set i (some (.inr (.inl x)))).set (i + 1) none
def sx_mk (t : Nat) (x : Int) : sx_V := match t with
  | 1 => .inr (.inl x)
  | 2 => .inr (.inr x)
  | _ => .inl x
def sx_cat (st : List sx_V) : Nat := match st with
  | [] => 0
  | .inr (.inl _) :: r => 2 + sx_cat r
  | _ :: r => 1 + sx_cat r
/-- an array's place: kind t, index i -/
def sx_ix (sh : sx_H) (t : Nat) (a i : Int) : Prop := (sx_lk sh a).1 = t ∧ 0 ≤ i ∧ i < ((sx_lk sh a).2 : Int)
def sx_psh (r : Option sx_V) (st : List sx_V) : List sx_V := match r with
  | none => st
  | some v => v :: st
def sx_rc (st : List sx_V) (sh : sx_H) (ci : Nat) : Prop := match st with
  | .inr (.inr a) :: _ => sx_lk sh a = (0, ci)
  | _ => False
def sx_call (Rn : sx_C) (w : List Nat) (st : List sx_V) (sh : sx_H) (σ : sx_S) (k : List sx_V → sx_H → sx_S → Prop) : Prop := match w with
  | [0, mid, n, ci] => n ≤ st.length ∧ sx_cat (st.drop n) ≤ 8 ∧ sx_rc (st.drop (n - 1)) sh ci ∧ Rn mid (st.take n).reverse sh σ (fun r sh' σ' => k (sx_psh r (st.drop n)) sh' σ')
  | [4, mid, n] => n ≤ st.length ∧ sx_cat (st.drop n) ≤ 8 ∧ Rn mid (st.take n).reverse sh σ (fun r sh' σ' => k (sx_psh r (st.drop n)) sh' σ')
  | [1, 0] => sx_pI st fun y st => sx_pI st fun x st => sx_cat st ≤ 8 ∧ k (.inl (if x < y then y else x) :: st) sh σ
  | [1, 1] => sx_pI st fun y st => sx_pI st fun x st => sx_cat st ≤ 8 ∧ k (.inl (if y < x then y else x) :: st) sh σ
  | [1, 2] => sx_pI st fun x st => sx_cat st ≤ 8 ∧ sx_r32 (-x) ∧ k (.inl (if 0 < x then x else -x) :: st) sh σ
  | [1, 3] => sx_pJ st fun y st => sx_pJ st fun x st => sx_cat st ≤ 8 ∧ k (.inr (.inl (if x < y then y else x)) :: st) sh σ
  | [1, 4] => sx_pJ st fun y st => sx_pJ st fun x st => sx_cat st ≤ 8 ∧ k (.inr (.inl (if y < x then y else x)) :: st) sh σ
  | [1, 5] => sx_pJ st fun x st => sx_cat st ≤ 8 ∧ sx_r64 (-x) ∧ k (.inr (.inl (if 0 < x then x else -x)) :: st) sh σ
  | [2] => sx_pI st fun n st => sx_pI st fun j st => sx_pA st fun b st => sx_pI st fun i st => sx_pA st fun a st =>
      sx_cat st ≤ 8 ∧ (sx_lk sh a).1 = 1 ∧ (sx_lk sh b).1 = 1 ∧ 0 ≤ i ∧ 0 ≤ j ∧ 0 ≤ n ∧ i + n ≤ ((sx_lk sh a).2 : Int) ∧ j + n ≤ ((sx_lk sh b).2 : Int) ∧ k st sh (sx_cp σ a i b j n)
  | _ => False
def sx_st (Rn : sx_C) (I : sx_I) (L : sx_L) (st : List sx_V) (sh : sx_H) (σ : sx_S) (k : sx_K) : Prop := match I.2.1 with
  | .iconst n => k L (.inl n :: st) sh σ
  | .bipush n => k L (.inl n :: st) sh σ
  | .sipush n => k L (.inl n :: st) sh σ
  | .lconst n => k L (.inr (.inl (n.val : Int)) :: st) sh σ
  | .ldc _ => match I.2.2 with
    | [m, 0] => k L (.inl (m : Int) :: st) sh σ
    | [m, 1] => k L (.inl (-(m : Int)) :: st) sh σ
    | _ => False
  | .ldc2_w _ => match I.2.2 with
    | [m, 0] => k L (.inr (.inl (m : Int)) :: st) sh σ
    | [m, 1] => k L (.inr (.inl (-(m : Int))) :: st) sh σ
    | _ => False
  | .iload i => sx_lI L i fun x => k L (.inl x :: st) sh σ
  | .iload_n i => sx_lI L i.val fun x => k L (.inl x :: st) sh σ
  | .lload i => sx_lJ L i fun x => k L (.inr (.inl x) :: st) sh σ
  | .lload_n i => sx_lJ L i.val fun x => k L (.inr (.inl x) :: st) sh σ
  | .aload i => sx_lA L i fun x => k L (.inr (.inr x) :: st) sh σ
  | .aload_n i => sx_lA L i.val fun x => k L (.inr (.inr x) :: st) sh σ
  | .istore i => sx_pI st fun x st => k (sx_set L i (.inl x)) st sh σ
  | .istore_n i => sx_pI st fun x st => k (sx_set L i.val (.inl x)) st sh σ
  | .lstore i => sx_pJ st fun x st => k (sx_setJ L i x) st sh σ
  | .lstore_n i => sx_pJ st fun x st => k (sx_setJ L i.val x) st sh σ
  | .astore i => sx_pA st fun x st => k (sx_set L i (.inr (.inr x))) st sh σ
  | .astore_n i => sx_pA st fun x st => k (sx_set L i.val (.inr (.inr x))) st sh σ
  | .iinc i n => sx_lI L i fun x => sx_r32 (x + n) ∧ k (sx_set L i (.inl (x + n))) st sh σ
  | .iadd => sx_pI st fun y st => sx_pI st fun x st => sx_r32 (x + y) ∧ k L (.inl (x + y) :: st) sh σ
  | .isub => sx_pI st fun y st => sx_pI st fun x st => sx_r32 (x - y) ∧ k L (.inl (x - y) :: st) sh σ
  | .imul => sx_pI st fun y st => sx_pI st fun x st => sx_r32 (x * y) ∧ k L (.inl (x * y) :: st) sh σ
  | .idiv => sx_pI st fun y st => sx_pI st fun x st => y ≠ 0 ∧ sx_r32 (x.tdiv y) ∧ k L (.inl (x.tdiv y) :: st) sh σ
  | .irem => sx_pI st fun y st => sx_pI st fun x st => y ≠ 0 ∧ sx_r32 (x.tdiv y) ∧ k L (.inl (x.tmod y) :: st) sh σ
  | .ineg => sx_pI st fun x st => sx_r32 (-x) ∧ k L (.inl (-x) :: st) sh σ
  | .iand => sx_pI st fun y st => sx_pI st fun x st => k L (.inl (sx_and x y) :: st) sh σ
  | .ior => sx_pI st fun y st => sx_pI st fun x st => k L (.inl (sx_or x y) :: st) sh σ
  | .ishl => sx_pI st fun y st => sx_pI st fun x st => k L (.inl (sx_shl x y) :: st) sh σ
  | .ishr => sx_pI st fun y st => sx_pI st fun x st => k L (.inl (sx_shr x y) :: st) sh σ
  | .ladd => sx_pJ st fun y st => sx_pJ st fun x st => sx_r64 (x + y) ∧ k L (.inr (.inl (x + y)) :: st) sh σ
  | .lsub => sx_pJ st fun y st => sx_pJ st fun x st => sx_r64 (x - y) ∧ k L (.inr (.inl (x - y)) :: st) sh σ
  | .lmul => sx_pJ st fun y st => sx_pJ st fun x st => sx_r64 (x * y) ∧ k L (.inr (.inl (x * y)) :: st) sh σ
  | .ldiv => sx_pJ st fun y st => sx_pJ st fun x st => y ≠ 0 ∧ sx_r64 (x.tdiv y) ∧ k L (.inr (.inl (x.tdiv y)) :: st) sh σ
  | .lrem => sx_pJ st fun y st => sx_pJ st fun x st => y ≠ 0 ∧ sx_r64 (x.tdiv y) ∧ k L (.inr (.inl (x.tmod y)) :: st) sh σ
  | .lneg => sx_pJ st fun x st => sx_r64 (-x) ∧ k L (.inr (.inl (-x)) :: st) sh σ
  | .land => sx_pJ st fun y st => sx_pJ st fun x st => k L (.inr (.inl (sx_andL x y)) :: st) sh σ
  | .lor => sx_pJ st fun y st => sx_pJ st fun x st => k L (.inr (.inl (sx_orL x y)) :: st) sh σ
  | .lxor => sx_pJ st fun y st => sx_pJ st fun x st => k L (.inr (.inl (sx_xorL x y)) :: st) sh σ
  | .lshl => sx_pI st fun y st => sx_pJ st fun x st => k L (.inr (.inl (sx_shlL x y)) :: st) sh σ
  | .lshr => sx_pI st fun y st => sx_pJ st fun x st => k L (.inr (.inl (sx_shrL x y)) :: st) sh σ
  | .lushr => sx_pI st fun y st => sx_pJ st fun x st => k L (.inr (.inl (sx_ushrL x y)) :: st) sh σ
  | .lcmp => sx_pJ st fun y st => sx_pJ st fun x st => k L (.inl (sx_cmp x y) :: st) sh σ
  | .i2l => sx_pI st fun x st => k L (.inr (.inl x) :: st) sh σ
  | .l2i => sx_pJ st fun x st => sx_r32 x ∧ k L (.inl x :: st) sh σ
  | .i2b => sx_pI st fun x st => k L (.inl (sx_b8 x) :: st) sh σ
  | .dup => match st with
    | .inl x :: r => k L (.inl x :: .inl x :: r) sh σ
    | .inr (.inr x) :: r => k L (.inr (.inr x) :: .inr (.inr x) :: r) sh σ
    | _ => False
  | .pop => match st with
    | .inl _ :: r => k L r sh σ
    | .inr (.inr _) :: r => k L r sh σ
    | _ => False
  | .dup2 => match st with
    | .inl x :: .inr (.inr y) :: r => k L (.inl x :: .inr (.inr y) :: .inl x :: .inr (.inr y) :: r) sh σ
    | .inr (.inl x) :: r => k L (.inr (.inl x) :: .inr (.inl x) :: r) sh σ
    | _ => False
  | .getfield _ => match I.2.2 with
    | ci :: f :: t :: _ => sx_pA st fun a st => sx_lk sh a = (0, ci) ∧ k L (sx_mk t (σ a f) :: st) sh σ
    | _ => False
  | .putfield _ => match I.2.2 with
    | ci :: f :: 0 :: _ => sx_pI st fun v st => sx_pA st fun a st => sx_lk sh a = (0, ci) ∧ k L st sh (sx_up σ a f v)
    | ci :: f :: 1 :: _ => sx_pJ st fun v st => sx_pA st fun a st => sx_lk sh a = (0, ci) ∧ k L st sh (sx_up σ a f v)
    | ci :: f :: 2 :: _ => sx_pA st fun v st => sx_pA st fun a st => sx_lk sh a = (0, ci) ∧ k L st sh (sx_up σ a f v)
    | ci :: f :: 3 :: _ => sx_pI st fun v st => sx_pA st fun a st => sx_lk sh a = (0, ci) ∧ (v = 0 ∨ v = 1) ∧ k L st sh (sx_up σ a f v)
    | _ => False
  | .iaload => sx_pI st fun i st => sx_pA st fun a st => sx_ix sh 1 a i ∧ k L (.inl (σ a i) :: st) sh σ
  | .laload => sx_pI st fun i st => sx_pA st fun a st => sx_ix sh 2 a i ∧ k L (.inr (.inl (σ a i)) :: st) sh σ
  | .baload => match I.2.2 with
    | [t] => (t = 3 ∨ t = 4) ∧ sx_pI st fun i st => sx_pA st fun a st => sx_ix sh t a i ∧ k L (.inl (σ a i) :: st) sh σ
    | _ => False
  | .aaload => sx_pI st fun i st => sx_pA st fun a st => sx_ix sh 5 a i ∧ k L (.inr (.inr (σ a i)) :: st) sh σ
  | .iastore => sx_pI st fun v st => sx_pI st fun i st => sx_pA st fun a st => sx_ix sh 1 a i ∧ k L st sh (sx_up σ a i v)
  | .lastore => sx_pJ st fun v st => sx_pI st fun i st => sx_pA st fun a st => sx_ix sh 2 a i ∧ k L st sh (sx_up σ a i v)
  | .bastore => match I.2.2 with
    | [3] => sx_pI st fun v st => sx_pI st fun i st => sx_pA st fun a st => sx_ix sh 3 a i ∧ (-128 ≤ v ∧ v ≤ 127) ∧ k L st sh (sx_up σ a i v)
    | [4] => sx_pI st fun v st => sx_pI st fun i st => sx_pA st fun a st => sx_ix sh 4 a i ∧ (v = 0 ∨ v = 1) ∧ k L st sh (sx_up σ a i v)
    | _ => False
  | .arraylength => sx_pA st fun a st => (1 ≤ (sx_lk sh a).1 ∧ (sx_lk sh a).1 ≤ 5) ∧ k L (.inl ((sx_lk sh a).2 : Int) :: st) sh σ
  | .invokevirtual _ => sx_call Rn I.2.2 st sh σ fun st sh σ => k L st sh σ
  | .invokestatic _ => sx_call Rn I.2.2 st sh σ fun st sh σ => k L st sh σ
  | _ => False
/-- a table of jumps: from low on, a label a value -/
def sx_tab (x : Int) (k : Nat → Prop) : Int → List Nat → Prop
  | _, [] => True
  | lo, t :: ts => (x = lo → k t) ∧ sx_tab x k (lo + 1) ts
def sx_lks (x : Int) (k : Nat → Prop) (d : Nat) : List (Int × Int) → List Nat → Prop
  | (v, _) :: ps, t :: ts => (x = v → k t) ∧ (¬ x = v → sx_lks x k d ps ts)
  | _, _ => k d
def sx_bk (Rn : sx_C) (J : Nat → sx_K) (R : sx_R) : List sx_I → sx_K
  | [], _, _, _, _ => False
  | I :: is, L, st, sh, σ => match I.2.1 with
    | .nop => J (I.2.2.headD 0) L st sh σ
    | .goto _ => J (I.2.2.headD 0) L st sh σ
    | .ifCond c _ => sx_pI st fun x st => (sx_cc c x 0 → J (I.2.2.headD 0) L st sh σ) ∧ (¬ sx_cc c x 0 → sx_bk Rn J R is L st sh σ)
    | .if_icmp c _ => sx_pI st fun y st => sx_pI st fun x st => (sx_cc c x y → J (I.2.2.headD 0) L st sh σ) ∧ (¬ sx_cc c x y → sx_bk Rn J R is L st sh σ)
    | .tableswitch _ lo hi _ => sx_pI st fun x st => (x < lo ∨ hi < x → J (I.2.2.headD 0) L st sh σ) ∧ sx_tab x (fun t => J t L st sh σ) lo (I.2.2.drop 1)
    | .lookupswitch _ ps => sx_pI st fun x st => sx_lks x (fun t => J t L st sh σ) (I.2.2.headD 0) ps.toList (I.2.2.drop 1)
    | .return_ => st = [] ∧ R none sh σ
    | .ireturn => match st with
      | [.inl x] => (I.2.2 = [1] → x = 0 ∨ x = 1) ∧ R (some (.inl x)) sh σ
      | _ => False
    | .lreturn => match st with
      | [.inr (.inl x)] => R (some (.inr (.inl x))) sh σ
      | _ => False
    | .areturn => match st with
      | [.inr (.inr x)] => R (some (.inr (.inr x))) sh σ
      | _ => False
    | _ => sx_st Rn I L st sh σ (fun L st sh σ => sx_bk Rn J R is L st sh σ)
def sx_go (Rn : sx_C) (cd : Nat → List sx_I) (cuts : List Nat) (K : Nat → sx_K) (R : sx_R) : Nat → Nat → sx_K
  | 0, _, _, _, _, _ => False
  | n + 1, t, L, st, sh, σ => sx_bk Rn (fun t L st sh σ => if cuts.contains t = true then K t L st sh σ else sx_go Rn cd cuts K R n t L st sh σ) R (cd t) L st sh σ
/-- the locals at a method's entry -/
def sx_args : List sx_V → sx_L
  | [] => []
  | .inr (.inl x) :: r => some (.inr (.inl x)) :: none :: sx_args r
  | v :: r => some v :: sx_args r
def sx_ent (vs : List sx_V) (n : Nat) : sx_L := sx_args vs ++ List.replicate (n - (sx_args vs).length) none
