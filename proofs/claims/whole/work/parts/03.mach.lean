/-! THE SMALL MACHINE: this claim's methods over a store whose cells are numbered; no cell is made -/
def xm_at {α : Type} : List α → Nat → Option α
  | [], _ => none
  | a :: _, 0 => some a
  | _ :: l, n + 1 => xm_at l n
def xm_nth : List Value → Nat → Value
  | [], _ => .null
  | a :: _, 0 => a
  | _ :: l, n + 1 => xm_nth l n
def xm_hd (a : Value) : Value := match a with
  | .long _ => .null
  | .double _ => .null
  | _ => a
def xm_kh (a : Value) : Nat → Value
  | 0 => xm_hd a
  | _ + 1 => a
def xm_st1 : List Value → Nat → Value → List Value
  | [], _, _ => []
  | _ :: l, 0, v => v :: l
  | a :: l, n + 1, v => xm_kh a n :: xm_st1 l n v
def xm_nl : List Value → List Value
  | [] => []
  | _ :: l => .null :: l
def xm_st2 : List Value → Nat → Value → List Value
  | [], _, _ => []
  | _ :: l, 0, v => v :: xm_nl l
  | a :: l, n + 1, v => xm_kh a n :: xm_st2 l n v
/-- the store with one place changed -/
def xm_sI (σ : Sg) (k j : Nat) (x : Int32) : Sg := (fun a => if a = k then upd (σ.1 k) j x else σ.1 a, σ.2)
def xm_sL (σ : Sg) (k j : Nat) (x : Int64) : Sg := (σ.1, fun a => if a = k then vp_updL (σ.2 k) j x else σ.2 a)
def xm_yI (σ : Sg) (a b sp dp n : Nat) : Sg := (fun c => if c = b then va_cpy (σ.1 a) (σ.1 b) sp dp n else σ.1 c, σ.2)
def xm_yL (σ : Sg) (a b sp dp n : Nat) : Sg := (σ.1, fun c => if c = b then va_cpy (σ.2 a) (σ.2 b) sp dp n else σ.2 c)
def xm_fv (σ : Sg) (b j : Nat) : Nat → Value
  | 0 => .int (σ.1 b j)
  | 1 => .long (σ.2 b j)
  | k + 2 => .ref k
def xm_cat : List Value → Nat
  | [] => 0
  | v :: l => v.category + xm_cat l
def xm_tk : Nat → List Value → List Value → Option (List Value × List Value)
  | 0, st, acc => some (acc, st)
  | n + 1, v :: st, acc => xm_tk n st (v :: acc)
  | _ + 1, [], _ => none
abbrev Kt : Type := Nat → List Value → List Value → Sg → Option RV
abbrev Oz : Type := Option RV
/-- a branch -/
def xm_br (c : Prop) [h : Decidable c] (a b : Oz) : Oz := @ite Oz c h a b
theorem xm_br_t {c : Prop} {h : Decidable c} {a b : Oz} (hc : c) : @xm_br c h a b = a := if_pos hc
theorem xm_br_f {c : Prop} {h : Decidable c} {a b : Oz} (hc : ¬ c) : @xm_br c h a b = b := if_neg hc
-- what an instruction asks of the stack and of the store
def xm_ix (i : Int32) (n : Nat) (k : Nat → Oz) : Oz := if i < 0 ∨ n ≤ i.toNatClampNeg then none else k i.toNatClampNeg
def xm_dv (y : Int32) (k : Oz) : Oz := if y = 0 then none else k
def xm_dvL (y : Int64) (k : Oz) : Oz := if y = 0 then none else k
def xm_cp (sp dp n : Int32) (na nb : Nat) (k : Oz) : Oz := if sp < 0 ∨ dp < 0 ∨ n < 0 ∨ na < sp.toNatClampNeg + n.toNatClampNeg ∨ nb < dp.toNatClampNeg + n.toNatClampNeg then none else k
def xm_bo (x : Int32) (k : Oz) : Oz := if x = 0 ∨ x = 1 then k else none
def xm_cV (o : Oz) (k : Sg → Oz) : Oz := match o with
  | some (none, σ) => k σ
  | _ => none
def xm_cI (o : Oz) (k : Int32 → Sg → Oz) : Oz := match o with
  | some (some (.int x), σ) => k x σ
  | _ => none
def xm_cL (o : Oz) (k : Int64 → Sg → Oz) : Oz := match o with
  | some (some (.long x), σ) => k x σ
  | _ => none
def xm_tr (b : Bool) (k : Oz) : Oz := match b with
  | true => k
  | false => none
def xm_so {α : Type} (o : Option α) (k : α → Oz) : Oz := match o with
  | some x => k x
  | none => none
def xm_vI (v : Value) (k : Int32 → Oz) : Oz := match v with
  | .int x => k x
  | _ => none
def xm_vL (v : Value) (k : Int64 → Oz) : Oz := match v with
  | .long x => k x
  | _ => none
def xm_vR (v : Value) (k : Nat → Oz) : Oz := match v with
  | .ref x => k x
  | _ => none
def xm_pop (st : List Value) (k : Value → List Value → Oz) : Oz := match st with
  | v :: r => k v r
  | [] => none
def xm_pI (st : List Value) (k : Int32 → List Value → Oz) : Oz := xm_pop st (fun v r => xm_vI v (fun x => k x r))
def xm_pL (st : List Value) (k : Int64 → List Value → Oz) : Oz := xm_pop st (fun v r => xm_vL v (fun x => k x r))
def xm_pR (st : List Value) (k : Nat → List Value → Oz) : Oz := xm_pop st (fun v r => xm_vR v (fun x => k x r))
def xm_ar (b ty : Nat) (k : Nat → Nat → Oz) : Oz := match xm_at xm_sh b with
  | some (.inl (y, n, z)) => xm_tr (Nat.beq y ty) (k n z)
  | _ => none
def xm_al (b : Nat) (k : Nat → Oz) : Oz := match xm_at xm_sh b with
  | some (.inl (_, n, _)) => k n
  | _ => none
def xm_ty (b : Nat) (k : Nat → Nat → Oz) : Oz := match xm_at xm_sh b with
  | some (.inl (y, n, _)) => k y n
  | _ => none
def xm_fx : List Nat := [0, 1, 2, 3, 4, 5, 6, 7, 8, 9, 10, 11, 12, 13, 14, 15, 16, 17, 18, 19, 20, 21, 22, 23, 24, 25, 26, 27, 28, 29, 30, 31, 32, 33, 34, 35, 36, 37, 38, 39, 40, 41, 42, 43, 44, 45, 46, 47, 48, 49, 50, 51, 52, 53, 54, 55, 56, 57, 58, 59, 60, 61, 62, 63]
def xm_fl (b t : Nat) (k : Nat → Nat → Oz) : Oz := match xm_at xm_sh b with
  | some (.inr (ci, fs)) => xm_tr (Nat.beq ci (t / 64)) (xm_so (xm_at xm_fx (t % 64)) fun j => xm_so (xm_at fs j) (k j))
  | _ => none
def xm_ob (b ci : Nat) : Bool := match xm_at xm_sh b with
  | some (.inr (c, _)) => Nat.beq c ci
  | _ => false
def xm_swl (x : Int32) (k : Nat → Oz) (dt : Nat) : List (Int32 × Nat) → Oz
  | [] => k dt
  | (y, t) :: ts => xm_br (x = y) (k t) (xm_swl x k dt ts)
def xm_row (i : Int32) (base : Nat) (k : Nat → Oz) : Oz := xm_br (i = 0) (k base) (xm_br (i = 1) (k (base + 1)) (xm_br (i = 2) (k (base + 2)) (xm_br (i = 3) (k (base + 3)) none)))
def xm_dup (v : Value) (k : Oz) : Oz := match v with
  | .int _ => k
  | .ref _ => k
  | _ => none
def xm_cll (cl : Nat → List Value → Sg → Oz) (K : Kt) (nx : Nat) (ls r as : List Value) (σ : Sg) (M rk : Nat) : Oz := match rk with
  | 0 => xm_cV (cl M as σ) (fun σ' => K nx ls r σ')
  | 1 => xm_cI (cl M as σ) (fun x σ' => K nx ls (.int x :: r) σ')
  | 2 => xm_cL (cl M as σ) (fun x σ' => K nx ls (.long x :: r) σ')
  | _ => none
def xm_acp2 (K : Kt) (nx : Nat) (ls r : List Value) (σ : Sg) (a b sp dp n : Nat) : Nat → Oz
  | 0 => K nx ls r (xm_yI σ a b sp dp n)
  | 1 => K nx ls r (xm_yL σ a b sp dp n)
  | _ => none
def xm_acp (K : Kt) (nx : Nat) (ls st : List Value) (σ : Sg) : Oz :=
  xm_pI st fun n r => xm_pI r fun dp r => xm_pR r fun b r => xm_pI r fun sp r => xm_pR r fun a r => xm_tr (Nat.ble (xm_cat r) 8) (
    xm_ty a fun y na => xm_ty b fun y' nb => xm_tr (Nat.beq y y') (xm_cp sp dp n na nb (xm_acp2 K nx ls r σ a b sp.toNatClampNeg dp.toNatClampNeg n.toNatClampNeg y)))
def xm_imax (x y : Int32) : Int32 := if x < y then y else x
def xm_imin (x y : Int32) : Int32 := if y < x then y else x
def xm_labs (x : Int64) : Int64 := if 0 < x then x else -x
def xm_lmin (x y : Int64) : Int64 := if y < x then y else x
def xm_inv (cl : Nat → List Value → Sg → Oz) (K : Kt) (nx : Nat) (ls st : List Value) (σ : Sg) : Nat → Oz
  | 0 => xm_acp K nx ls st σ
  | 1 => xm_pI st fun y r => xm_pI r fun x r => xm_tr (Nat.ble (xm_cat r) 8) (K nx ls (.int (xm_imax x y) :: r) σ)
  | 2 => xm_pI st fun y r => xm_pI r fun x r => xm_tr (Nat.ble (xm_cat r) 8) (K nx ls (.int (xm_imin x y) :: r) σ)
  | 3 => xm_pL st fun x r => xm_tr (Nat.ble (xm_cat r) 8) (K nx ls (.long (xm_labs x) :: r) σ)
  | 4 => xm_pL st fun y r => xm_pL r fun x r => xm_tr (Nat.ble (xm_cat r) 8) (K nx ls (.long (xm_lmin x y) :: r) σ)
  | t + 5 => xm_so (xm_tk (t / 4 % 8) st []) fun q => xm_tr (Nat.ble (xm_cat q.2) 8) (xm_cll cl K nx ls q.2 q.1 σ (t / 512) (t % 4))
def xm_ret (rt : Nat) (st : List Value) (σ : Sg) : Oz := match rt, st with
  | 0, [] => some (none, σ)
  | 1, [.int x] => some (some (.int x), σ)
  | 2, [.long x] => some (some (.long x), σ)
  | 3, [.int x] => xm_bo x (some (some (.int x), σ))
  | _, _ => none
/-- one instruction -/
def xm_stp (cl : Nat → List Value → Sg → Oz) (K : Kt) (rt : Nat) (nx : Nat) (ls st : List Value) (σ : Sg) (i : Instr) (t : Nat) : Oz :=
  match i with
  | .iconst _ => xm_so (xm_at xm_kI t) fun x => K nx ls (.int x :: st) σ
  | .bipush _ => xm_so (xm_at xm_kI t) fun x => K nx ls (.int x :: st) σ
  | .sipush _ => xm_so (xm_at xm_kI t) fun x => K nx ls (.int x :: st) σ
  | .lconst _ => xm_so (xm_at xm_kL t) fun x => K nx ls (.long x :: st) σ
  | .ldc _ => xm_so (xm_at xm_kI t) fun x => K nx ls (.int x :: st) σ
  | .ldc_w _ => xm_so (xm_at xm_kI t) fun x => K nx ls (.int x :: st) σ
  | .ldc2_w _ => xm_so (xm_at xm_kL t) fun x => K nx ls (.long x :: st) σ
  | .iload_n n => xm_vI (xm_nth ls n.val) fun x => K nx ls (.int x :: st) σ
  | .iload n => xm_vI (xm_nth ls n) fun x => K nx ls (.int x :: st) σ
  | .lload_n n => xm_vL (xm_nth ls n.val) fun x => K nx ls (.long x :: st) σ
  | .lload n => xm_vL (xm_nth ls n) fun x => K nx ls (.long x :: st) σ
  | .aload_n n => xm_vR (xm_nth ls n.val) fun x => K nx ls (.ref x :: st) σ
  | .aload n => xm_vR (xm_nth ls n) fun x => K nx ls (.ref x :: st) σ
  | .istore_n n => xm_pI st fun x r => K nx (xm_st1 ls n.val (.int x)) r σ
  | .istore n => xm_pI st fun x r => K nx (xm_st1 ls n (.int x)) r σ
  | .lstore_n n => xm_pL st fun x r => K nx (xm_st2 ls n.val (.long x)) r σ
  | .lstore n => xm_pL st fun x r => K nx (xm_st2 ls n (.long x)) r σ
  | .iinc n _ => xm_vI (xm_nth ls n) fun x => xm_so (xm_at xm_kI t) fun y => K nx (xm_st1 ls n (.int (x + y))) st σ
  | .iadd => xm_pI st fun y r => xm_pI r fun x r => K nx ls (.int (x + y) :: r) σ
  | .isub => xm_pI st fun y r => xm_pI r fun x r => K nx ls (.int (x - y) :: r) σ
  | .imul => xm_pI st fun y r => xm_pI r fun x r => K nx ls (.int (x * y) :: r) σ
  | .iand => xm_pI st fun y r => xm_pI r fun x r => K nx ls (.int (x &&& y) :: r) σ
  | .ior => xm_pI st fun y r => xm_pI r fun x r => K nx ls (.int (x ||| y) :: r) σ
  | .ixor => xm_pI st fun y r => xm_pI r fun x r => K nx ls (.int (x ^^^ y) :: r) σ
  | .ishl => xm_pI st fun y r => xm_pI r fun x r => K nx ls (.int (x <<< (y &&& 31)) :: r) σ
  | .ishr => xm_pI st fun y r => xm_pI r fun x r => K nx ls (.int (x >>> (y &&& 31)) :: r) σ
  | .iushr => xm_pI st fun y r => xm_pI r fun x r => K nx ls (.int (x.toUInt32 >>> (y.toUInt32 &&& Int32.toUInt32 31)).toInt32 :: r) σ
  | .idiv => xm_pI st fun y r => xm_pI r fun x r => xm_dv y (K nx ls (.int (x / y) :: r) σ)
  | .irem => xm_pI st fun y r => xm_pI r fun x r => xm_dv y (K nx ls (.int (x - x / y * y) :: r) σ)
  | .ineg => xm_pI st fun x r => K nx ls (.int (-x) :: r) σ
  | .ladd => xm_pL st fun y r => xm_pL r fun x r => K nx ls (.long (x + y) :: r) σ
  | .lsub => xm_pL st fun y r => xm_pL r fun x r => K nx ls (.long (x - y) :: r) σ
  | .lmul => xm_pL st fun y r => xm_pL r fun x r => K nx ls (.long (x * y) :: r) σ
  | .ldiv => xm_pL st fun y r => xm_pL r fun x r => xm_dvL y (K nx ls (.long (x / y) :: r) σ)
  | .lrem => xm_pL st fun y r => xm_pL r fun x r => xm_dvL y (K nx ls (.long (x - x / y * y) :: r) σ)
  | .lneg => xm_pL st fun x r => K nx ls (.long (-x) :: r) σ
  | .lcmp => xm_pL st fun y r => xm_pL r fun x r => K nx ls (.int (lg_cmp x y) :: r) σ
  | .i2l => xm_pI st fun x r => K nx ls (.long x.toInt64 :: r) σ
  | .l2i => xm_pL st fun x r => K nx ls (.int x.toInt32 :: r) σ
  | .i2b => xm_pI st fun x r => K nx ls (.int x.toInt8.toInt32 :: r) σ
  | .i2s => xm_pI st fun x r => K nx ls (.int x.toInt16.toInt32 :: r) σ
  | .dup => xm_pop st fun v r => xm_dup v (K nx ls (v :: v :: r) σ)
  | .dup2 => xm_pI st fun y r => xm_pR r fun x r => K nx ls (.int y :: .ref x :: .int y :: .ref x :: r) σ
  | .pop => xm_pI st fun _ r => K nx ls r σ
  | .goto _ => K t ls st σ
  | .ifCond .eq _ => xm_pI st fun x r => xm_br (x = 0) (K t ls r σ) (K nx ls r σ)
  | .ifCond .ne _ => xm_pI st fun x r => xm_br (x = 0) (K nx ls r σ) (K t ls r σ)
  | .ifCond .lt _ => xm_pI st fun x r => xm_br (x < 0) (K t ls r σ) (K nx ls r σ)
  | .ifCond .ge _ => xm_pI st fun x r => xm_br (0 ≤ x) (K t ls r σ) (K nx ls r σ)
  | .ifCond .gt _ => xm_pI st fun x r => xm_br (0 < x) (K t ls r σ) (K nx ls r σ)
  | .ifCond .le _ => xm_pI st fun x r => xm_br (x ≤ 0) (K t ls r σ) (K nx ls r σ)
  | .if_icmp .eq _ => xm_pI st fun y r => xm_pI r fun x r => xm_br (x = y) (K t ls r σ) (K nx ls r σ)
  | .if_icmp .ne _ => xm_pI st fun y r => xm_pI r fun x r => xm_br (x = y) (K nx ls r σ) (K t ls r σ)
  | .if_icmp .lt _ => xm_pI st fun y r => xm_pI r fun x r => xm_br (x < y) (K t ls r σ) (K nx ls r σ)
  | .if_icmp .ge _ => xm_pI st fun y r => xm_pI r fun x r => xm_br (y ≤ x) (K t ls r σ) (K nx ls r σ)
  | .if_icmp .gt _ => xm_pI st fun y r => xm_pI r fun x r => xm_br (y < x) (K t ls r σ) (K nx ls r σ)
  | .if_icmp .le _ => xm_pI st fun y r => xm_pI r fun x r => xm_br (x ≤ y) (K t ls r σ) (K nx ls r σ)
  | .tableswitch _ _ _ _ => xm_pI st fun x r => xm_so (xm_at xm_sw t) fun q => xm_swl x (fun g => K g ls r σ) q.1 q.2
  | .getfield _ => xm_pR st fun b r => xm_fl b t fun j f => K nx ls (xm_fv σ b j f :: r) σ
  | .putfield _ => xm_pop st fun v r => xm_pR r fun b r => xm_fl b t fun j f => match v with
    | .int x => xm_tr (Nat.beq f 0) (K nx ls r (xm_sI σ b j x))
    | .long x => xm_tr (Nat.beq f 1) (K nx ls r (xm_sL σ b j x))
    | _ => none
  | .arraylength => xm_pR st fun b r => xm_al b fun n => K nx ls (.int (Int32.ofNat n) :: r) σ
  | .iaload => xm_pI st fun i r => xm_pR r fun b r => xm_ar b 0 fun n _ => xm_ix i n fun j => K nx ls (.int (σ.1 b j) :: r) σ
  | .baload => xm_pI st fun i r => xm_pR r fun b r => xm_ar b 2 fun n _ => xm_ix i n fun j => K nx ls (.int (σ.1 b j) :: r) σ
  | .laload => xm_pI st fun i r => xm_pR r fun b r => xm_ar b 1 fun n _ => xm_ix i n fun j => K nx ls (.long (σ.2 b j) :: r) σ
  | .aaload => xm_pI st fun i r => xm_pR r fun b r => xm_ar b 3 fun n z => xm_tr (Nat.beq n 4) (xm_row i z fun k => K nx ls (.ref k :: r) σ)
  | .iastore => xm_pI st fun x r => xm_pI r fun i r => xm_pR r fun b r => xm_ar b 0 fun n _ => xm_ix i n fun j => K nx ls r (xm_sI σ b j x)
  | .bastore => xm_pI st fun x r => xm_pI r fun i r => xm_pR r fun b r => xm_ar b 2 fun n _ => xm_bo x (xm_ix i n fun j => K nx ls r (xm_sI σ b j x))
  | .lastore => xm_pL st fun x r => xm_pI r fun i r => xm_pR r fun b r => xm_ar b 1 fun n _ => xm_ix i n fun j => K nx ls r (xm_sL σ b j x)
  | .invokevirtual _ => xm_so (xm_tk (t / 4 % 8) st []) fun q => xm_pR q.2 fun b r => xm_tr (xm_ob b (t / 32 % 16)) (xm_tr (Nat.ble (xm_cat r) 8) (xm_cll cl K nx ls r (.ref b :: q.1) σ (t / 512) (t % 4)))
  | .invokestatic _ => xm_inv cl K nx ls st σ t
  | .ireturn => xm_ret rt st σ
  | .lreturn => xm_ret rt st σ
  | .return_ => xm_ret rt st σ
  | _ => none
def xm_lk : List Ety → Nat → Option (Instr × List Nat × Nat × Nat)
  | [], _ => none
  | (p, x) :: r, pc => match Nat.beq p pc with
    | true => some x
    | false => xm_lk r pc
/-- values that nobody reads any more are forgotten -/
def xm_ml (a : Value) : Nat → Value
  | 0 => a
  | _ + 1 => .null
def xm_msk : List Nat → List Value → List Value
  | [], ls => ls
  | _ :: _, [] => []
  | k :: r, a :: l => xm_ml a k :: xm_msk r l
def xm_mk (cd : List Ety) (pc : Nat) (ls : List Value) : List Value := match xm_lk cd pc with
  | some (_, zk, _, _) => xm_msk zk ls
  | none => ls
/-- so many instructions at most -/
def xm_fr (cl : Nat → List Value → Sg → Oz) (rt : Nat) (cd : List Ety) : Nat → Nat → List Value → List Value → Sg → Oz
  | 0, _, _, _, _ => none
  | n + 1, pc, ls, st, σ => match xm_lk cd pc with
    | some (i, zk, t, nx) => xm_stp cl (xm_fr cl rt cd n) rt nx (xm_msk zk ls) st σ i t
    | none => none
/-- as many as it takes -/
noncomputable def xm_rn (cl : Nat → List Value → Sg → Oz) (rt : Nat) (cd : List Ety) (pc : Nat) (ls st : List Value) (σ : Sg) : Oz :=
  @dite Oz (∃ r, ∃ n, xm_fr cl rt cd n pc ls st σ = some r) (Classical.propDecidable _) (fun h => some h.choose) (fun _ => none)
def xm_mem (pc : Nat) : List Nat → Bool
  | [] => false
  | q :: l => match Nat.beq q pc with
    | true => true
    | false => xm_mem pc l
noncomputable def xm_it (cl : Nat → List Value → Sg → Oz) (rt : Nat) (cd : List Ety) (stops : List Nat) : Nat → Nat → List Value → List Value → Sg → Oz
  | 0, pc, ls, st, σ => xm_rn cl rt cd pc ls st σ
  | n + 1, pc, ls, st, σ => match xm_lk cd pc with
    | some (i, zk, t, nx) => xm_stp cl (fun pc ls st σ => match xm_mem pc stops with
      | true => xm_rn cl rt cd pc (xm_mk cd pc ls) st σ
      | false => xm_it cl rt cd stops n pc ls st σ) rt nx (xm_msk zk ls) st σ i t
    | none => none
/-- a step goes nowhere, on to one state, or ends -/
def xm_F (F : Kt → Oz) : Prop := (∀ K, F K = none) ∨ (∃ a b c d, ∀ K, F K = K a b c d) ∨ (∃ r, ∀ K, F K = some r)
theorem xm_F_n : xm_F (fun _ => none) := Or.inl fun _ => rfl
theorem xm_F_k (a : Nat) (b c : List Value) (d : Sg) : xm_F (fun K => K a b c d) := Or.inr (Or.inl ⟨a, b, c, d, fun _ => rfl⟩)
theorem xm_F_r (r : RV) : xm_F (fun _ => some r) := Or.inr (Or.inr ⟨r, fun _ => rfl⟩)
theorem xm_F_if {c : Prop} {hc : Decidable c} {F G : Kt → Oz} (h1 : xm_F F) (h2 : xm_F G) : xm_F (fun K => @ite _ c hc (F K) (G K)) := by
  by_cases h : c
  · simpa only [if_pos h] using h1
  · simpa only [if_neg h] using h2
theorem xm_F_br {c : Prop} {hc : Decidable c} {F G : Kt → Oz} (h1 : xm_F F) (h2 : xm_F G) : xm_F (fun K => @xm_br c hc (F K) (G K)) := xm_F_if h1 h2
theorem xm_F_ix {i : Int32} {n : Nat} {F : Kt → Nat → Oz} (h : ∀ j, xm_F (fun K => F K j)) : xm_F (fun K => xm_ix i n (F K)) := xm_F_if xm_F_n (h _)
theorem xm_F_dv {i : Int32} {F : Kt → Oz} (h : xm_F F) : xm_F (fun K => xm_dv i (F K)) := xm_F_if xm_F_n h
theorem xm_F_dvL {i : Int64} {F : Kt → Oz} (h : xm_F F) : xm_F (fun K => xm_dvL i (F K)) := xm_F_if xm_F_n h
theorem xm_F_cp {a b c : Int32} {n m : Nat} {F : Kt → Oz} (h : xm_F F) : xm_F (fun K => xm_cp a b c n m (F K)) := xm_F_if xm_F_n h
theorem xm_F_bo {a : Int32} {F : Kt → Oz} (h : xm_F F) : xm_F (fun K => xm_bo a (F K)) := xm_F_if h xm_F_n
theorem xm_F_cV {o : Oz} {F : Kt → Sg → Oz} (h : ∀ s, xm_F (fun K => F K s)) : xm_F (fun K => xm_cV o (F K)) := by
  rcases o with _ | ⟨_ | _, s⟩
  · exact xm_F_n
  · exact h s
  · exact xm_F_n
theorem xm_F_cI {o : Oz} {F : Kt → Int32 → Sg → Oz} (h : ∀ x s, xm_F (fun K => F K x s)) : xm_F (fun K => xm_cI o (F K)) := by
  rcases o with _ | ⟨_ | v, s⟩
  · exact xm_F_n
  · exact xm_F_n
  · cases v
    case int x => exact h x s
    all_goals exact xm_F_n
theorem xm_F_cL {o : Oz} {F : Kt → Int64 → Sg → Oz} (h : ∀ x s, xm_F (fun K => F K x s)) : xm_F (fun K => xm_cL o (F K)) := by
  rcases o with _ | ⟨_ | v, s⟩
  · exact xm_F_n
  · exact xm_F_n
  · cases v
    case long x => exact h x s
    all_goals exact xm_F_n
theorem xm_F_tr {b : Bool} {F : Kt → Oz} (h : xm_F F) : xm_F (fun K => xm_tr b (F K)) := by
  cases b
  · exact xm_F_n
  · exact h
theorem xm_F_so {α : Type} {o : Option α} {F : Kt → α → Oz} (h : ∀ x, xm_F (fun K => F K x)) : xm_F (fun K => xm_so o (F K)) := by
  cases o
  · exact xm_F_n
  · exact h _
theorem xm_F_vI {v : Value} {F : Kt → Int32 → Oz} (h : ∀ x, xm_F (fun K => F K x)) : xm_F (fun K => xm_vI v (F K)) := by
  cases v
  case int x => exact h x
  all_goals exact xm_F_n
theorem xm_F_vL {v : Value} {F : Kt → Int64 → Oz} (h : ∀ x, xm_F (fun K => F K x)) : xm_F (fun K => xm_vL v (F K)) := by
  cases v
  case long x => exact h x
  all_goals exact xm_F_n
theorem xm_F_vR {v : Value} {F : Kt → Nat → Oz} (h : ∀ x, xm_F (fun K => F K x)) : xm_F (fun K => xm_vR v (F K)) := by
  cases v
  case ref x => exact h x
  all_goals exact xm_F_n
theorem xm_F_pop {st : List Value} {F : Kt → Value → List Value → Oz} (h : ∀ v r, xm_F (fun K => F K v r)) : xm_F (fun K => xm_pop st (F K)) := by
  cases st
  · exact xm_F_n
  · exact h _ _
theorem xm_F_pI {st : List Value} {F : Kt → Int32 → List Value → Oz} (h : ∀ v r, xm_F (fun K => F K v r)) : xm_F (fun K => xm_pI st (F K)) := xm_F_pop (F := fun K v r => xm_vI v (fun x => F K x r)) fun v r => xm_F_vI (F := fun K x => F K x r) fun x => h x r
theorem xm_F_pL {st : List Value} {F : Kt → Int64 → List Value → Oz} (h : ∀ v r, xm_F (fun K => F K v r)) : xm_F (fun K => xm_pL st (F K)) := xm_F_pop (F := fun K v r => xm_vL v (fun x => F K x r)) fun v r => xm_F_vL (F := fun K x => F K x r) fun x => h x r
theorem xm_F_pR {st : List Value} {F : Kt → Nat → List Value → Oz} (h : ∀ v r, xm_F (fun K => F K v r)) : xm_F (fun K => xm_pR st (F K)) := xm_F_pop (F := fun K v r => xm_vR v (fun x => F K x r)) fun v r => xm_F_vR (F := fun K x => F K x r) fun x => h x r
theorem xm_F_ar {b ty : Nat} {F : Kt → Nat → Nat → Oz} (h : ∀ n z, xm_F (fun K => F K n z)) : xm_F (fun K => xm_ar b ty (F K)) := by
  unfold xm_ar
  rcases xm_at xm_sh b with _ | ⟨⟨y, n, z⟩ | _⟩
  · exact xm_F_n
  · exact xm_F_tr (F := fun K => F K n z) (h n z)
  · exact xm_F_n
theorem xm_F_al {b : Nat} {F : Kt → Nat → Oz} (h : ∀ n, xm_F (fun K => F K n)) : xm_F (fun K => xm_al b (F K)) := by
  unfold xm_al
  rcases xm_at xm_sh b with _ | ⟨⟨y, n, z⟩ | _⟩
  · exact xm_F_n
  · exact h n
  · exact xm_F_n
theorem xm_F_fl {b t : Nat} {F : Kt → Nat → Nat → Oz} (h : ∀ j n, xm_F (fun K => F K j n)) : xm_F (fun K => xm_fl b t (F K)) := by
  unfold xm_fl
  rcases xm_at xm_sh b with _ | ⟨_ | ⟨ci, fs⟩⟩
  · exact xm_F_n
  · exact xm_F_n
  · exact xm_F_tr (F := fun K => xm_so (xm_at xm_fx (t % 64)) fun j => xm_so (xm_at fs j) (F K j)) (xm_F_so (F := fun K j => xm_so (xm_at fs j) (F K j)) fun j => xm_F_so (F := fun K => F K j) (h j))
theorem xm_F_swl {x : Int32} {dt : Nat} {F : Kt → Nat → Oz} (h : ∀ n, xm_F (fun K => F K n)) : ∀ (ts : List (Int32 × Nat)), xm_F (fun K => xm_swl x (F K) dt ts)
  | [] => h dt
  | t :: ts => xm_F_br (h t.2) (xm_F_swl h ts)
theorem xm_F_row {i : Int32} {b : Nat} {F : Kt → Nat → Oz} (h : ∀ n, xm_F (fun K => F K n)) : xm_F (fun K => xm_row i b (F K)) := xm_F_br (h _) (xm_F_br (h _) (xm_F_br (h _) (xm_F_br (h _) xm_F_n)))
theorem xm_F_dup {v : Value} {F : Kt → Oz} (h : xm_F F) : xm_F (fun K => xm_dup v (F K)) := by
  cases v
  case int => exact h
  case ref => exact h
  all_goals exact xm_F_n
theorem xm_F_cll {cl : Nat → List Value → Sg → Oz} {nx : Nat} {ls r as : List Value} {σ : Sg} {M rk : Nat} : xm_F (fun K => xm_cll cl K nx ls r as σ M rk) := by
  unfold xm_cll
  match rk with
  | 0 => exact xm_F_cV (F := fun K σ' => K nx ls r σ') fun s => xm_F_k _ _ _ _
  | 1 => exact xm_F_cI (F := fun K x σ' => K nx ls (.int x :: r) σ') fun x s => xm_F_k _ _ _ _
  | 2 => exact xm_F_cL (F := fun K x σ' => K nx ls (.long x :: r) σ') fun x s => xm_F_k _ _ _ _
  | _ + 3 => exact xm_F_n
theorem xm_F_ty {b : Nat} {F : Kt → Nat → Nat → Oz} (h : ∀ y n, xm_F (fun K => F K y n)) : xm_F (fun K => xm_ty b (F K)) := by
  unfold xm_ty
  rcases xm_at xm_sh b with _ | ⟨⟨y, n, z⟩ | _⟩
  · exact xm_F_n
  · exact h y n
  · exact xm_F_n
theorem xm_F_acp2 {nx : Nat} {ls r : List Value} {σ : Sg} {a b sp dp n : Nat} : ∀ y, xm_F (fun K => xm_acp2 K nx ls r σ a b sp dp n y)
  | 0 => xm_F_k _ _ _ _
  | 1 => xm_F_k _ _ _ _
  | _ + 2 => xm_F_n
theorem xm_F_acp {nx : Nat} {ls st : List Value} {σ : Sg} : xm_F (fun K => xm_acp K nx ls st σ) :=
  xm_F_pI fun n r => xm_F_pI fun dp r => xm_F_pR fun b r => xm_F_pI fun sp r => xm_F_pR fun a r => xm_F_tr (xm_F_ty fun y na => xm_F_ty fun y' nb => xm_F_tr (xm_F_cp (xm_F_acp2 y)))
theorem xm_F_inv {cl : Nat → List Value → Sg → Oz} {nx : Nat} {ls st : List Value} {σ : Sg} : ∀ t, xm_F (fun K => xm_inv cl K nx ls st σ t)
  | 0 => xm_F_acp
  | 1 => xm_F_pI fun y r => xm_F_pI fun x r => xm_F_tr (xm_F_k _ _ _ _)
  | 2 => xm_F_pI fun y r => xm_F_pI fun x r => xm_F_tr (xm_F_k _ _ _ _)
  | 3 => xm_F_pL fun x r => xm_F_tr (xm_F_k _ _ _ _)
  | 4 => xm_F_pL fun y r => xm_F_pL fun x r => xm_F_tr (xm_F_k _ _ _ _)
  | _ + 5 => xm_F_so fun _ => xm_F_tr xm_F_cll
theorem xm_F_ret {rt : Nat} {st : List Value} {σ : Sg} : xm_F (fun _ => xm_ret rt st σ) := by
  cases h : xm_ret rt st σ with
  | none => exact xm_F_n
  | some r => exact xm_F_r r
theorem xm_F_stp (cl : Nat → List Value → Sg → Oz) (rt nx : Nat) (ls st : List Value) (σ : Sg) (i : Instr) (t : Nat) : xm_F (fun K => xm_stp cl K rt nx ls st σ i t) := by
  cases i with
  | goto n => exact xm_F_k _ _ _ _
  | iinc n c => exact xm_F_vI fun x => xm_F_so fun y => xm_F_k _ _ _ _
  | ldc n => exact xm_F_so fun x => xm_F_k _ _ _ _
  | ldc_w n => exact xm_F_so fun x => xm_F_k _ _ _ _
  | ldc2_w n => exact xm_F_so fun x => xm_F_k _ _ _ _
  | iconst n => exact xm_F_so fun x => xm_F_k _ _ _ _
  | bipush n => exact xm_F_so fun x => xm_F_k _ _ _ _
  | sipush n => exact xm_F_so fun x => xm_F_k _ _ _ _
  | lconst n => exact xm_F_so fun x => xm_F_k _ _ _ _
  | iload_n n => exact xm_F_vI fun x => xm_F_k _ _ _ _
  | iload n => exact xm_F_vI fun x => xm_F_k _ _ _ _
  | lload_n n => exact xm_F_vL fun x => xm_F_k _ _ _ _
  | lload n => exact xm_F_vL fun x => xm_F_k _ _ _ _
  | aload_n n => exact xm_F_vR fun x => xm_F_k _ _ _ _
  | aload n => exact xm_F_vR fun x => xm_F_k _ _ _ _
  | istore_n n => exact xm_F_pI fun x r => xm_F_k _ _ _ _
  | istore n => exact xm_F_pI fun x r => xm_F_k _ _ _ _
  | ineg => exact xm_F_pI fun x r => xm_F_k _ _ _ _
  | i2l => exact xm_F_pI fun x r => xm_F_k _ _ _ _
  | i2b => exact xm_F_pI fun x r => xm_F_k _ _ _ _
  | i2s => exact xm_F_pI fun x r => xm_F_k _ _ _ _
  | pop => exact xm_F_pI fun x r => xm_F_k _ _ _ _
  | lstore_n n => exact xm_F_pL fun x r => xm_F_k _ _ _ _
  | lstore n => exact xm_F_pL fun x r => xm_F_k _ _ _ _
  | lneg => exact xm_F_pL fun x r => xm_F_k _ _ _ _
  | l2i => exact xm_F_pL fun x r => xm_F_k _ _ _ _
  | iadd => exact xm_F_pI fun y r => xm_F_pI fun x r => xm_F_k _ _ _ _
  | isub => exact xm_F_pI fun y r => xm_F_pI fun x r => xm_F_k _ _ _ _
  | imul => exact xm_F_pI fun y r => xm_F_pI fun x r => xm_F_k _ _ _ _
  | iand => exact xm_F_pI fun y r => xm_F_pI fun x r => xm_F_k _ _ _ _
  | ior => exact xm_F_pI fun y r => xm_F_pI fun x r => xm_F_k _ _ _ _
  | ixor => exact xm_F_pI fun y r => xm_F_pI fun x r => xm_F_k _ _ _ _
  | ishl => exact xm_F_pI fun y r => xm_F_pI fun x r => xm_F_k _ _ _ _
  | ishr => exact xm_F_pI fun y r => xm_F_pI fun x r => xm_F_k _ _ _ _
  | iushr => exact xm_F_pI fun y r => xm_F_pI fun x r => xm_F_k _ _ _ _
  | idiv => exact xm_F_pI fun y r => xm_F_pI fun x r => xm_F_dv (xm_F_k _ _ _ _)
  | irem => exact xm_F_pI fun y r => xm_F_pI fun x r => xm_F_dv (xm_F_k _ _ _ _)
  | ladd => exact xm_F_pL fun y r => xm_F_pL fun x r => xm_F_k _ _ _ _
  | lsub => exact xm_F_pL fun y r => xm_F_pL fun x r => xm_F_k _ _ _ _
  | lmul => exact xm_F_pL fun y r => xm_F_pL fun x r => xm_F_k _ _ _ _
  | lcmp => exact xm_F_pL fun y r => xm_F_pL fun x r => xm_F_k _ _ _ _
  | ldiv => exact xm_F_pL fun y r => xm_F_pL fun x r => xm_F_dvL (xm_F_k _ _ _ _)
  | lrem => exact xm_F_pL fun y r => xm_F_pL fun x r => xm_F_dvL (xm_F_k _ _ _ _)
  | dup => exact xm_F_pop fun v r => xm_F_dup (xm_F_k _ _ _ _)
  | dup2 => exact xm_F_pI fun y r => xm_F_pR fun x r => xm_F_k _ _ _ _
  | ifCond c n => cases c <;> exact xm_F_pI fun x r => xm_F_br (xm_F_k _ _ _ _) (xm_F_k _ _ _ _)
  | if_icmp c n => cases c <;> exact xm_F_pI fun y r => xm_F_pI fun x r => xm_F_br (xm_F_k _ _ _ _) (xm_F_k _ _ _ _)
  | tableswitch d lo hi o => exact xm_F_pI fun x r => xm_F_so fun q => xm_F_swl (F := fun K g => K g ls r σ) (fun g => xm_F_k _ _ _ _) q.2
  | getfield n => exact xm_F_pR fun b r => xm_F_fl fun j f => xm_F_k _ _ _ _
  | putfield n =>
    refine xm_F_pop fun v r => xm_F_pR fun b r => xm_F_fl fun j f => ?_
    cases v
    case int x => exact xm_F_tr (F := fun K => K nx ls r (xm_sI σ b j x)) (xm_F_k _ _ _ _)
    case long x => exact xm_F_tr (F := fun K => K nx ls r (xm_sL σ b j x)) (xm_F_k _ _ _ _)
    all_goals exact xm_F_n
  | arraylength => exact xm_F_pR fun b r => xm_F_al fun n => xm_F_k _ _ _ _
  | iaload => exact xm_F_pI fun i r => xm_F_pR fun b r => xm_F_ar fun n z => xm_F_ix fun j => xm_F_k _ _ _ _
  | baload => exact xm_F_pI fun i r => xm_F_pR fun b r => xm_F_ar fun n z => xm_F_ix fun j => xm_F_k _ _ _ _
  | laload => exact xm_F_pI fun i r => xm_F_pR fun b r => xm_F_ar fun n z => xm_F_ix fun j => xm_F_k _ _ _ _
  | aaload => exact xm_F_pI fun i r => xm_F_pR fun b r => xm_F_ar fun n z => xm_F_tr (xm_F_row fun j => xm_F_k _ _ _ _)
  | iastore => exact xm_F_pI fun x r => xm_F_pI fun i r => xm_F_pR fun b r => xm_F_ar fun n z => xm_F_ix fun j => xm_F_k _ _ _ _
  | bastore => exact xm_F_pI fun x r => xm_F_pI fun i r => xm_F_pR fun b r => xm_F_ar fun n z => xm_F_bo (xm_F_ix fun j => xm_F_k _ _ _ _)
  | lastore => exact xm_F_pL fun x r => xm_F_pI fun i r => xm_F_pR fun b r => xm_F_ar fun n z => xm_F_ix fun j => xm_F_k _ _ _ _
  | invokevirtual n => exact xm_F_so fun q => xm_F_pR fun b r => xm_F_tr (xm_F_tr xm_F_cll)
  | invokestatic n => exact xm_F_inv t
  | ireturn => exact xm_F_ret
  | lreturn => exact xm_F_ret
  | return_ => exact xm_F_ret
  | _ => exact xm_F_n
theorem xm_mono {cl : Nat → List Value → Sg → Oz} {rt : Nat} {cd : List Ety} : ∀ (n pc : Nat) (ls st : List Value) (σ : Sg) (r : RV), xm_fr cl rt cd n pc ls st σ = some r → xm_fr cl rt cd (n + 1) pc ls st σ = some r
  | 0, _, _, _, _, _, h => by cases h
  | n + 1, pc, ls, st, σ, r, h => by
    unfold xm_fr at h ⊢
    cases hl : xm_lk cd pc with
    | none => rw [hl] at h; cases h
    | some q =>
      obtain ⟨i, z, t, nx⟩ := q
      rw [hl] at h
      dsimp only at h ⊢
      rcases xm_F_stp cl rt nx (xm_msk z ls) st σ i t with hF | ⟨a, b, c, d, hF⟩ | ⟨r', hF⟩
      · rw [show xm_stp cl (xm_fr cl rt cd n) rt nx (xm_msk z ls) st σ i t = none from hF _] at h; cases h
      · rw [show xm_stp cl (xm_fr cl rt cd n) rt nx (xm_msk z ls) st σ i t = xm_fr cl rt cd n a b c d from hF _] at h
        rw [show xm_stp cl (xm_fr cl rt cd (n + 1)) rt nx (xm_msk z ls) st σ i t = xm_fr cl rt cd (n + 1) a b c d from hF _]
        exact xm_mono n a b c d r h
      · rw [show xm_stp cl (xm_fr cl rt cd n) rt nx (xm_msk z ls) st σ i t = some r' from hF _] at h
        rw [show xm_stp cl (xm_fr cl rt cd (n + 1)) rt nx (xm_msk z ls) st σ i t = some r' from hF _]
        exact h
theorem xm_mono_le {cl : Nat → List Value → Sg → Oz} {rt : Nat} {cd : List Ety} {n pc : Nat} {ls st : List Value} {σ : Sg} {r : RV} (h : xm_fr cl rt cd n pc ls st σ = some r) : ∀ k, xm_fr cl rt cd (n + k) pc ls st σ = some r
  | 0 => h
  | k + 1 => xm_mono _ _ _ _ _ _ (xm_mono_le h k)
theorem xm_rn_of {cl : Nat → List Value → Sg → Oz} {rt : Nat} {cd : List Ety} {n pc : Nat} {ls st : List Value} {σ : Sg} {r : RV} (h : xm_fr cl rt cd n pc ls st σ = some r) : xm_rn cl rt cd pc ls st σ = some r := by
  have hx : ∃ r, ∃ n, xm_fr cl rt cd n pc ls st σ = some r := ⟨r, n, h⟩
  unfold xm_rn
  rw [dif_pos hx]
  obtain ⟨k, hk⟩ := hx.choose_spec
  have h1 := xm_mono_le h k
  have h2 := xm_mono_le hk n
  rw [Nat.add_comm] at h2
  exact h2.symm.trans h1
theorem xm_rn_ex {cl : Nat → List Value → Sg → Oz} {rt : Nat} {cd : List Ety} {pc : Nat} {ls st : List Value} {σ : Sg} {r : RV} (h : xm_rn cl rt cd pc ls st σ = some r) : ∃ n, xm_fr cl rt cd n pc ls st σ = some r := by
  unfold xm_rn at h
  by_cases hx : ∃ r, ∃ n, xm_fr cl rt cd n pc ls st σ = some r
  · rw [dif_pos hx] at h
    obtain ⟨k, hk⟩ := hx.choose_spec
    exact ⟨k, hk.trans h⟩
  · rw [dif_neg hx] at h; cases h
/-- the machine's own equation -/
theorem xm_rn_eq (cl : Nat → List Value → Sg → Oz) (rt : Nat) (cd : List Ety) (pc : Nat) (ls st : List Value) (σ : Sg) : xm_rn cl rt cd pc ls st σ = match xm_lk cd pc with
    | some (i, zk, t, nx) => xm_stp cl (xm_rn cl rt cd) rt nx (xm_msk zk ls) st σ i t
    | none => none := by
  cases hl : xm_lk cd pc with
  | none =>
    cases hr : xm_rn cl rt cd pc ls st σ with
    | none => rfl
    | some r =>
      obtain ⟨n, hn⟩ := xm_rn_ex hr
      cases n with
      | zero => cases hn
      | succ n => unfold xm_fr at hn; rw [hl] at hn; cases hn
  | some q =>
    obtain ⟨i, z, t, nx⟩ := q
    dsimp only
    have hs : ∀ n, xm_fr cl rt cd (n + 1) pc ls st σ = xm_stp cl (xm_fr cl rt cd n) rt nx (xm_msk z ls) st σ i t := fun n => by rw [xm_fr, hl]
    rcases xm_F_stp cl rt nx (xm_msk z ls) st σ i t with hF | ⟨a, b, c, d, hF⟩ | ⟨r', hF⟩
    · rw [show xm_stp cl (xm_rn cl rt cd) rt nx (xm_msk z ls) st σ i t = none from hF _]
      cases hr : xm_rn cl rt cd pc ls st σ with
      | none => rfl
      | some r =>
        obtain ⟨n, hn⟩ := xm_rn_ex hr
        cases n with
        | zero => cases hn
        | succ n => rw [hs, show xm_stp cl (xm_fr cl rt cd n) rt nx (xm_msk z ls) st σ i t = none from hF _] at hn; cases hn
    · rw [show xm_stp cl (xm_rn cl rt cd) rt nx (xm_msk z ls) st σ i t = xm_rn cl rt cd a b c d from hF _]
      cases hr : xm_rn cl rt cd a b c d with
      | some r =>
        obtain ⟨n, hn⟩ := xm_rn_ex hr
        exact xm_rn_of (n := n + 1) (by rw [hs, show xm_stp cl (xm_fr cl rt cd n) rt nx (xm_msk z ls) st σ i t = _ from hF _]; exact hn)
      | none =>
        cases hr2 : xm_rn cl rt cd pc ls st σ with
        | none => rfl
        | some r =>
          obtain ⟨n, hn⟩ := xm_rn_ex hr2
          cases n with
          | zero => cases hn
          | succ n =>
            rw [hs, show xm_stp cl (xm_fr cl rt cd n) rt nx (xm_msk z ls) st σ i t = _ from hF _] at hn
            rw [xm_rn_of hn] at hr
            cases hr
    · rw [show xm_stp cl (xm_rn cl rt cd) rt nx (xm_msk z ls) st σ i t = some r' from hF _]
      exact xm_rn_of (n := 1) (by rw [hs, show xm_stp cl (xm_fr cl rt cd 0) rt nx (xm_msk z ls) st σ i t = _ from hF _])
theorem xm_ml2 (a : Value) : ∀ k, xm_ml (xm_ml a k) k = xm_ml a k
  | 0 => rfl
  | _ + 1 => rfl
theorem xm_msk2 : ∀ (zk : List Nat) (l : List Value), xm_msk zk (xm_msk zk l) = xm_msk zk l
  | [], _ => rfl
  | _ :: _, [] => rfl
  | k :: r, a :: l => by
    show xm_ml (xm_ml a k) k :: xm_msk r (xm_msk r l) = xm_ml a k :: xm_msk r l
    rw [xm_ml2, xm_msk2 r l]
theorem xm_rn_mk (cl : Nat → List Value → Sg → Oz) (rt : Nat) (cd : List Ety) (pc : Nat) (ls st : List Value) (σ : Sg) : xm_rn cl rt cd pc ls st σ = xm_rn cl rt cd pc (xm_mk cd pc ls) st σ := by
  rw [xm_rn_eq cl rt cd pc ls, xm_rn_eq cl rt cd pc (xm_mk cd pc ls)]
  unfold xm_mk
  cases hl : xm_lk cd pc with
  | none => rfl
  | some q =>
    obtain ⟨i, z, t, nx⟩ := q
    dsimp only
    rw [xm_msk2]
/-- some instructions on, up to certain places -/
theorem xm_it_eq {cl : Nat → List Value → Sg → Oz} {rt : Nat} {cd : List Ety} (stops : List Nat) : ∀ (n : Nat) {pc : Nat} {ls st : List Value} {σ : Sg}, xm_rn cl rt cd pc ls st σ = xm_it cl rt cd stops n pc ls st σ
  | 0, _, _, _, _ => rfl
  | n + 1, pc, ls, st, σ => by
    rw [xm_rn_eq, xm_it]
    cases hl : xm_lk cd pc with
    | none => rfl
    | some q =>
      obtain ⟨i, z, t, nx⟩ := q
      dsimp only
      rcases xm_F_stp cl rt nx (xm_msk z ls) st σ i t with hF | ⟨a, b, c, d, hF⟩ | ⟨r', hF⟩
      · exact (hF _).trans (hF _).symm
      · refine (hF _).trans (Eq.trans ?_ (hF _).symm)
        show xm_rn cl rt cd a b c d = match xm_mem a stops with
          | true => xm_rn cl rt cd a (xm_mk cd a b) c d
          | false => xm_it cl rt cd stops n a b c d
        cases xm_mem a stops with
        | true => exact xm_rn_mk cl rt cd a b c d
        | false => exact xm_it_eq stops n
      · exact (hF _).trans (hF _).symm
