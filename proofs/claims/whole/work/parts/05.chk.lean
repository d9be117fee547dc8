/-! WHAT A PROGRAM CHECKS OF THE CODE: each row is what the bytes decode to, at its place, and its numbers mean what the tables say -/
def sx_tg (t : FieldType) : Nat := match t with
  | .int => 0
  | .long => 1
  | .boolean => 3
  | .byte => 4
  | _ => 2
def sx_has (tbl : List (Nat × Nat × Nat × Nat × Nat)) (a b c d : Nat) : Bool := tbl.any fun q => q.1 == a && (q.2.1 == b && (q.2.2.1 == c && q.2.2.2.1 == d))
def sx_has4 (tbl : List (Nat × Nat × Nat × Nat)) (a b c : Nat) : Bool := tbl.any fun q => q.1 == a && (q.2.1 == b && q.2.2.1 == c)
def sx_kd (i : Nat) : Nat := (sx_mw.getD i (9, 0, 0, 0, 0)).1
/-- a call of method i out of m, n values on the stack -/
def sx_okc (own : Nat) (mt : sx_Mt) (idx kd i n : Nat) : Bool := sx_has4 sx_ml own idx i && (decide (i < sx_Ms.length) && (sx_kd i == kd && (decide ((parseMethodDescriptor (sx_M i).1.desc).map (fun d => d.parameters.length + (if kd = 0 then 1 else 0)) = some n) && (decide ((sx_M i).2.2.2.2.1 + 1 ≤ mt.2.2.2.2.1) && decide (8 + ((sx_M i).2.2.1 + 11) + (sx_M i).2.2.2.2.2.1 ≤ mt.2.2.2.2.2.1)))))
def sx_ok1 (own : Nat) (mt : sx_Mt) (pc : Nat) (I : sx_I) : Bool := match I.2.1 with
  | .iconst n => I.1 == 1 && decide (sx_r32 n)
  | .bipush n => I.1 == 2 && decide (-128 ≤ n ∧ n ≤ 127)
  | .sipush n => I.1 == 3 && decide (-32768 ≤ n ∧ n ≤ 32767)
  | .lconst _ => I.1 == 1
  | .ldc i => I.1 == 2 && (match I.2.2 with
    | [m, s] => sx_has sx_cn own i m s
    | _ => false)
  | .ldc2_w i => I.1 == 3 && (match I.2.2 with
    | [m, s] => sx_has sx_cj own i m s
    | _ => false)
  | .iload _ => I.1 == 2
  | .lload _ => I.1 == 2
  | .aload _ => I.1 == 2
  | .iload_n _ => I.1 == 1
  | .lload_n _ => I.1 == 1
  | .aload_n _ => I.1 == 1
  | .istore i => I.1 == 2 && decide (i < mt.2.2.1)
  | .istore_n i => I.1 == 1 && decide (i.val < mt.2.2.1)
  | .astore i => I.1 == 2 && decide (i < mt.2.2.1)
  | .astore_n i => I.1 == 1 && decide (i.val < mt.2.2.1)
  | .lstore i => I.1 == 2 && decide (i + 1 < mt.2.2.1)
  | .lstore_n i => I.1 == 1 && decide (i.val + 1 < mt.2.2.1)
  | .iinc i _ => I.1 == 3 && decide (i < mt.2.2.1)
  | .getfield i => I.1 == 3 && (match I.2.2 with
    | [ci, f, t] => sx_has sx_fl own i ci f && t == sx_tg (sx_ty ci f)
    | _ => false)
  | .putfield i => I.1 == 3 && (match I.2.2 with
    | [ci, f, t] => sx_has sx_fl own i ci f && (t == sx_tg (sx_ty ci f) && (!(sx_cT ci f).2.2.2 || (decide (mt.1.name = "<init>") && decide ((sx_cT ci f).1 = sx_rn own))))
    | _ => false)
  | .invokevirtual i => I.1 == 3 && (match I.2.2 with
    | [0, q, n, ci] => sx_okc own mt i 0 q n && (decide (sx_rn ci = (sx_M q).1.cls) && decide (ci < 13))
    | _ => false)
  | .invokestatic i => I.1 == 3 && (match I.2.2 with
    | [4, q, n] => sx_okc own mt i 1 q n
    | [1, q] => sx_has4 sx_bl own i q && (decide (q < 6) && (decide (1 ≤ mt.2.2.2.2.1) && decide (24 ≤ mt.2.2.2.2.2.1)))
    | [2] => sx_has4 sx_bl own i 6 && (decide (1 ≤ mt.2.2.2.2.1) && decide (8 + (nativeFrameWords "java/lang/System" "arraycopy" 5 + 11) ≤ mt.2.2.2.2.2.1))
    | _ => false)
  | .goto o => I.1 == 3 && (match I.2.2 with
    | [t] => decide ((pc : Int) + o = (t : Int))
    | _ => false)
  | .ifCond _ o => I.1 == 3 && (match I.2.2 with
    | [t] => decide ((pc : Int) + o = (t : Int))
    | _ => false)
  | .if_icmp _ o => I.1 == 3 && (match I.2.2 with
    | [t] => decide ((pc : Int) + o = (t : Int))
    | _ => false)
  | .tableswitch d lo hi os => (match I.2.2 with
    | t :: ts => decide ((pc : Int) + d = (t : Int)) && (decide (os.toList.map (fun o => (pc : Int) + o) = ts.map (fun (x : Nat) => (x : Int))) && decide (hi - lo + 1 = (ts.length : Int)))
    | _ => false)
  | .lookupswitch d ps => (match I.2.2 with
    | t :: ts => decide ((pc : Int) + d = (t : Int)) && (decide (ps.toList.map (fun o => (pc : Int) + o.2) = ts.map (fun (x : Nat) => (x : Int))) && (ps.toList.zip (ps.toList.drop 1)).all (fun (a, next) => a.1 < next.1))
    | _ => false)
  | .return_ => I.1 == 1 && decide (mt.2.2.2.1 = none)
  | .ireturn => I.1 == 1 && ((decide (I.2.2 = [0]) && decide (mt.2.2.2.1 = some .int)) || (decide (I.2.2 = [1]) && decide (mt.2.2.2.1 = some .boolean)))
  | .lreturn => I.1 == 1 && decide (mt.2.2.2.1 = some .long)
  | .areturn => I.1 == 1 && decide (mt.2.2.2.1 = some (.array .int))
  | .nop => I.1 == 0 && decide (I.2.2 = [pc])
  | .baload => I.1 == 1
  | .bastore => I.1 == 1
  | _ => I.1 == 1
def sx_isn : Instr → Bool
  | .nop => true
  | _ => false
def sx_okB (own : Nat) (mt : sx_Mt) : List sx_I → Nat → Bool
  | [], _ => true
  | I :: is, pc => (sx_isn I.2.1 || decide (decode mt.2.1 pc = .ok (I.2.1, I.1))) && (sx_ok1 own mt pc I && sx_okB own mt is (pc + I.1))
/-- a method's code: its rows by label are what its bytes say -/
def sx_okM (own : Nat) (mt : sx_Mt) (cd : List (Nat × List sx_I)) : Bool := cd.all fun q => sx_okB own mt q.2 q.1
def sx_cd (cd : List (Nat × List sx_I)) (t : Nat) : List sx_I := (cd.find? fun q => q.1 == t).elim [] (fun q => q.2)
theorem sx_cd_ok {own : Nat} {mt : sx_Mt} {cd : List (Nat × List sx_I)} (h : sx_okM own mt cd = true) (t : Nat) : sx_okB own mt (sx_cd cd t) t = true := by
  unfold sx_cd
  cases hf : cd.find? fun q => q.1 == t with
  | none => rfl
  | some q =>
    have h1 := List.find?_some hf
    have h2 := List.mem_of_find?_eq_some hf
    have h3 := List.all_eq_true.mp h q h2
    have h4 : q.1 = t := by simpa using h1
    rw [h4] at h3
    exact h3
