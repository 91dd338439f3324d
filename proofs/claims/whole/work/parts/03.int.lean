-- THE INTERPRETER. A heap in maps: int, long and reference fields (field, address), elements (address, place), class tag, length, number of cells, number of slots. Address 0 is null.
abbrev AH : Type := ((Nat → Nat → Int32) × (Nat → Nat → Int64) × (Nat → Nat → Nat)) × ((Nat → Nat → Int32) × (Nat → Nat → Int64) × (Nat → Nat → Nat)) × ((Nat → Nat) × (Nat → Nat) × Nat × Nat)
def fI (h : AH) (f a : Nat) : Int32 := h.1.1 f a
def fL (h : AH) (f a : Nat) : Int64 := h.1.2.1 f a
def fR (h : AH) (f a : Nat) : Nat := h.1.2.2 f a
def eI (h : AH) (a i : Nat) : Int32 := h.2.1.1 a i
def eL (h : AH) (a i : Nat) : Int64 := h.2.1.2.1 a i
def eR (h : AH) (a i : Nat) : Nat := h.2.1.2.2 a i
def tg (h : AH) (a : Nat) : Nat := h.2.2.1 a
def ln (h : AH) (a : Nat) : Nat := h.2.2.2.1 a
def nn (h : AH) : Nat := h.2.2.2.2.1
def sl (h : AH) : Nat := h.2.2.2.2.2
def u2 {α : Type} (m : Nat → Nat → α) (f a : Nat) (v : α) : Nat → Nat → α := fun f' a' => if f' = f then (if a' = a then v else m f' a') else m f' a'
def u1 {α : Type} (m : Nat → α) (a : Nat) (v : α) : Nat → α := fun a' => if a' = a then v else m a'
def wI (h : AH) (f a : Nat) (v : Int32) : AH := ((u2 h.1.1 f a v, h.1.2.1, h.1.2.2), h.2)
def wL (h : AH) (f a : Nat) (v : Int64) : AH := ((h.1.1, u2 h.1.2.1 f a v, h.1.2.2), h.2)
def wR (h : AH) (f a : Nat) (v : Nat) : AH := ((h.1.1, h.1.2.1, u2 h.1.2.2 f a v), h.2)
def sI (h : AH) (a i : Nat) (v : Int32) : AH := (h.1, (u2 h.2.1.1 a i v, h.2.1.2.1, h.2.1.2.2), h.2.2)
def sL (h : AH) (a i : Nat) (v : Int64) : AH := (h.1, (h.2.1.1, u2 h.2.1.2.1 a i v, h.2.1.2.2), h.2.2)
def sR (h : AH) (a i : Nat) (v : Nat) : AH := (h.1, (h.2.1.1, h.2.1.2.1, u2 h.2.1.2.2 a i v), h.2.2)
/-- a new cell, all zero: its tag, its length, how many slots it takes -/
def mk (h : AH) (t l n : Nat) : AH :=
  ((fun f a => if a = nn h + 1 then 0 else h.1.1 f a, fun f a => if a = nn h + 1 then 0 else h.1.2.1 f a, fun f a => if a = nn h + 1 then 0 else h.1.2.2 f a),
   (fun a i => if a = nn h + 1 then 0 else h.2.1.1 a i, fun a i => if a = nn h + 1 then 0 else h.2.1.2.1 a i, fun a i => if a = nn h + 1 then 0 else h.2.1.2.2 a i),
   (u1 h.2.2.1 (nn h + 1) t, u1 h.2.2.2.1 (nn h + 1) l, nn h + 1, sl h + n))
def lkp {α : Type} : List (Nat × α) → Nat → Option α
  | [], _ => none
  | (k, v) :: t, n => if k = n then some v else lkp t n
def cpF (own idx : Nat) : Option (Nat × Nat × Nat × Nat) := lkp (cpFT.getD own []) idx
def cpC (own idx : Nat) : Option (Nat × Nat) := lkp (cpCT.getD own []) idx
def cpM (own idx : Nat) : Option (Nat × Nat × Nat × MethodName × String × List (Nat × Nat × List Nat)) := lkp (cpMT.getD own []) idx
def ins (c t : Nat) : Option Nat := lkp (insT.getD c []) t
def hasF (t f : Nat) : Bool := (ctab (t - 1)).any (fun x => x == f) && decide (0 < t) && decide (t < 20)
def gd {α : Type} (b : Bool) (x : Option α) : Option α := match b with | true => x | false => none
def inb (i : Int32) (n : Nat) : Bool := decide (0 ≤ i.toInt ∧ i.toInt < n)
def klL (v : Value) : Value := if v.category = 2 then .null else v
def stL : List Value → Nat → Value → List Value
  | [], _, _ => []
  | _ :: l, 0, v => v :: l
  | a :: l, 1, v => klL a :: (match l with | [] => [] | _ :: t => v :: t)
  | a :: l, n + 2, v => a :: stL l (n + 1) v
def layA : List Value → List Value
  | [] => []
  | v :: t => if v.category = 2 then v :: .null :: layA t else v :: layA t
def padL : Nat → List Value → List Value
  | 0, _ => []
  | n + 1, [] => .null :: padL n []
  | n + 1, v :: t => v :: padL n t
def initL (M : Nat) (as : List Value) : List Value := padL (mxl M) (layA as)
abbrev Out : Type := AH × Option Value
def bV (o : Option Out) (k : AH → Option Out) : Option Out := match o with | some (h, none) => k h | _ => none
def bI (o : Option Out) (k : Int32 → AH → Option Out) : Option Out := match o with | some (h, some (.int x)) => k x h | _ => none
def bL (o : Option Out) (k : Int64 → AH → Option Out) : Option Out := match o with | some (h, some (.long x)) => k x h | _ => none
def bR (o : Option Out) (k : Nat → AH → Option Out) : Option Out := match o with | some (h, some (.ref x)) => k x h | _ => none
def rdF (h : AH) (f a : Nat) : Value := match fty f with | 0 => .int (fI h f a) | 1 => .long (fL h f a) | _ => .ref (fR h f a)
def catS (st : List Value) : Nat := (st.map fun v => v.category).sum
/-- a call's answer, by the kind of answer that the call's name says -/
def bK (rk : Nat) (o : Option Out) (k : List Value → AH → Option Out) : Option Out := match rk with
  | 0 => bV o fun h => k [] h
  | 2 => bL o fun x h => k [.long x] h
  | 3 => bR o fun x h => k [.ref x] h
  | _ => bI o fun x h => k [.int x] h
def takeA : Nat → List Value → List Value → Option (List Value × List Value)
  | 0, acc, st => some (acc, st)
  | n + 1, acc, v :: st => takeA n (v :: acc) st
  | _ + 1, _, [] => none
def cfD (cf : Nat → List Value → AH → Option Out) (own idx t : Nat) (as : List Value) (h : AH) : Option Out :=
  match cpM own idx with
  | some (_, _, _, _, _, tgs) => (match lkp tgs t with | some (M', _) => gd (decide ((layA as).length ≤ mxl M')) (cf M' as h) | none => none)
  | none => none
def tgt (pc : Nat) (off : Int) : Nat := ((pc : Int) + off).toNat
def swp (pc : Nat) (d lo hi : Int) (os : Array Int) (x : Int32) : Nat := if x.toInt < lo ∨ hi < x.toInt then tgt pc d else tgt pc (os.toList.getD (x.toInt - lo).toNat d)
def swok (lo hi : Int) (os : Array Int) : Bool := decide (hi - lo + 1 = os.toList.length)
def okP (M f : Nat) : Bool := !(fd f).2.2.2 || (decide ((mnm M).name = "<init>") && decide ((fd f).1 = xcl (mow M)))
def isA (t : Nat) : Bool := decide (20 ≤ t ∧ t ≤ 22)
/-- one instruction: cf is what a call answers, k goes on -/
def stepI (L : Nat) (xs : Nat → Int32) (cf : Nat → List Value → AH → Option Out) (k : Nat → List Value → List Value → AH → Option Out) (M pc nx : Nat) (i : Instr) (ls st : List Value) (h : AH) : Option Out :=
  match i with
  | .iconst n => k nx ls (.int (Int32.ofInt n) :: st) h
  | .bipush n => k nx ls (.int (Int8.ofInt n).toInt32 :: st) h
  | .sipush n => k nx ls (.int (Int16.ofInt n).toInt32 :: st) h
  | .lconst n => k nx ls (.long (Int64.ofNat n) :: st) h
  | .aconst_null => k nx ls (.ref 0 :: st) h
  | .ldc2_w j => gd (decide (M = 0) && decide (j = 18)) (k nx ls (.long 4294967295 :: st) h)
  | .iload j => (match ls.getD j .null with | .int x => k nx ls (.int x :: st) h | _ => none)
  | .iload_n j => (match ls.getD j .null with | .int x => k nx ls (.int x :: st) h | _ => none)
  | .lload j => (match ls.getD j .null with | .long x => k nx ls (.long x :: st) h | _ => none)
  | .lload_n j => (match ls.getD j .null with | .long x => k nx ls (.long x :: st) h | _ => none)
  | .aload j => (match ls.getD j .null with | .ref x => k nx ls (.ref x :: st) h | .retAddr z => k nx ls (.retAddr z :: st) h | _ => none)
  | .aload_n j => (match ls.getD j .null with | .ref x => k nx ls (.ref x :: st) h | .retAddr z => k nx ls (.retAddr z :: st) h | _ => none)
  | .istore j => (match st with | .int x :: r => gd (decide (j < ls.length)) (k nx (stL ls j (.int x)) r h) | _ => none)
  | .istore_n j => (match st with | .int x :: r => gd (decide (j < ls.length)) (k nx (stL ls j (.int x)) r h) | _ => none)
  | .lstore j => (match st with | .long x :: r => gd (decide (j + 1 < ls.length)) (k nx ((stL ls j (.long x)).set (j + 1) .null) r h) | _ => none)
  | .lstore_n j => (match st with | .long x :: r => gd (decide (j + 1 < ls.length)) (k nx ((stL ls j (.long x)).set (j + 1) .null) r h) | _ => none)
  | .astore j => (match st with | .ref x :: r => gd (decide (j < ls.length)) (k nx (stL ls j (.ref x)) r h) | _ => none)
  | .astore_n j => (match st with | .ref x :: r => gd (decide (j < ls.length)) (k nx (stL ls j (.ref x)) r h) | _ => none)
  | .iinc j n => (match ls.getD j .null with | .int x => gd (decide (j < ls.length)) (k nx (stL ls j (.int (x + Int32.ofInt n))) st h) | _ => none)
  | .dup => (match st with | .int x :: r => k nx ls (.int x :: .int x :: r) h | .ref x :: r => k nx ls (.ref x :: .ref x :: r) h | _ => none)
  | .dup2 => (match st with | .int x :: .ref y :: r => k nx ls (.int x :: .ref y :: .int x :: .ref y :: r) h | _ => none)
  | .pop => (match st with | .int _ :: r => k nx ls r h | .ref _ :: r => k nx ls r h | _ => none)
  | .iadd => (match st with | .int y :: .int x :: r => k nx ls (.int (x + y) :: r) h | _ => none)
  | .isub => (match st with | .int y :: .int x :: r => k nx ls (.int (x - y) :: r) h | _ => none)
  | .imul => (match st with | .int y :: .int x :: r => k nx ls (.int (x * y) :: r) h | _ => none)
  | .iand => (match st with | .int y :: .int x :: r => k nx ls (.int (x &&& y) :: r) h | _ => none)
  | .ishr => (match st with | .int y :: .int x :: r => k nx ls (.int (x >>> (y &&& 31)) :: r) h | _ => none)
  | .idiv => (match st with | .int y :: .int x :: r => gd (decide (y ≠ 0)) (k nx ls (.int (x / y) :: r) h) | _ => none)
  | .ineg => (match st with | .int x :: r => k nx ls (.int (-x) :: r) h | _ => none)
  | .ladd => (match st with | .long y :: .long x :: r => k nx ls (.long (x + y) :: r) h | _ => none)
  | .lsub => (match st with | .long y :: .long x :: r => k nx ls (.long (x - y) :: r) h | _ => none)
  | .land => (match st with | .long y :: .long x :: r => k nx ls (.long (x &&& y) :: r) h | _ => none)
  | .lor => (match st with | .long y :: .long x :: r => k nx ls (.long (x ||| y) :: r) h | _ => none)
  | .lshl => (match st with | .int y :: .long x :: r => k nx ls (.long (x <<< (y.toInt64 &&& 63)) :: r) h | _ => none)
  | .i2l => (match st with | .int x :: r => k nx ls (.long x.toInt64 :: r) h | _ => none)
  | .l2i => (match st with | .long x :: r => k nx ls (.int x.toInt32 :: r) h | _ => none)
  | .lcmp => (match st with | .long y :: .long x :: r => k nx ls (.int (lg_cmp x y) :: r) h | _ => none)
  | .goto off => k (tgt pc off) ls st h
  | .ifCond .eq off => (match st with | .int x :: r => if x = 0 then k (tgt pc off) ls r h else k nx ls r h | _ => none)
  | .ifCond .ne off => (match st with | .int x :: r => if ¬ x = 0 then k (tgt pc off) ls r h else k nx ls r h | _ => none)
  | .ifCond .lt off => (match st with | .int x :: r => if x < 0 then k (tgt pc off) ls r h else k nx ls r h | _ => none)
  | .ifCond .ge off => (match st with | .int x :: r => if 0 ≤ x then k (tgt pc off) ls r h else k nx ls r h | _ => none)
  | .ifCond .gt off => (match st with | .int x :: r => if 0 < x then k (tgt pc off) ls r h else k nx ls r h | _ => none)
  | .ifCond .le off => (match st with | .int x :: r => if x ≤ 0 then k (tgt pc off) ls r h else k nx ls r h | _ => none)
  | .if_icmp .eq off => (match st with | .int y :: .int x :: r => if x = y then k (tgt pc off) ls r h else k nx ls r h | _ => none)
  | .if_icmp .ne off => (match st with | .int y :: .int x :: r => if ¬ x = y then k (tgt pc off) ls r h else k nx ls r h | _ => none)
  | .if_icmp .lt off => (match st with | .int y :: .int x :: r => if x < y then k (tgt pc off) ls r h else k nx ls r h | _ => none)
  | .if_icmp .ge off => (match st with | .int y :: .int x :: r => if y ≤ x then k (tgt pc off) ls r h else k nx ls r h | _ => none)
  | .if_icmp .gt off => (match st with | .int y :: .int x :: r => if y < x then k (tgt pc off) ls r h else k nx ls r h | _ => none)
  | .if_icmp .le off => (match st with | .int y :: .int x :: r => if x ≤ y then k (tgt pc off) ls r h else k nx ls r h | _ => none)
  | .if_acmp .eq off => (match st with | .ref y :: .ref x :: r => if x = y then k (tgt pc off) ls r h else k nx ls r h | _ => none)
  | .if_acmp .ne off => (match st with | .ref y :: .ref x :: r => if ¬ x = y then k (tgt pc off) ls r h else k nx ls r h | _ => none)
  | .ifnull off => (match st with | .ref x :: r => if x = 0 then k (tgt pc off) ls r h else k nx ls r h | _ => none)
  | .ifnonnull off => (match st with | .ref x :: r => if x = 0 then k nx ls r h else k (tgt pc off) ls r h | _ => none)
  | .tableswitch d lo hi os => (match st with | .int x :: r => gd (swok lo hi os) (k (swp pc d lo hi os x) ls r h) | _ => none)
  | .getfield idx => (match cpF (mow M) idx with
    | some (f, _) => (match st with | .ref a :: r => gd (hasF (tg h a) f) (k nx ls (rdF h f a :: r) h) | _ => none)
    | none => none)
  | .putfield idx => (match cpF (mow M) idx with
    | some (f, _) => gd (okP M f) (match fty f with
      | 0 => (match st with | .int x :: .ref a :: r => gd (hasF (tg h a) f) (k nx ls r (wI h f a x)) | _ => none)
      | 1 => (match st with | .long x :: .ref a :: r => gd (hasF (tg h a) f) (k nx ls r (wL h f a x)) | _ => none)
      | _ => (match st with | .ref x :: .ref a :: r => gd (hasF (tg h a) f) (k nx ls r (wR h f a x)) | _ => none))
    | none => none)
  | .new idx => (match cpC (mow M) idx with
    | some (c, _) => gd (decide (c < 10)) (k nx ls (.ref (nn h + 1) :: st) (mk h (c + 1) 0 (ctab c).length))
    | none => none)
  | .newarray .int => (match st with | .int n :: r => gd (decide (0 ≤ n.toInt ∧ n.toInt ≤ 1000000)) (k nx ls (.ref (nn h + 1) :: r) (mk h 20 n.toNatClampNeg n.toNatClampNeg)) | _ => none)
  | .newarray .long => (match st with | .int n :: r => gd (decide (0 ≤ n.toInt ∧ n.toInt ≤ 1000000)) (k nx ls (.ref (nn h + 1) :: r) (mk h 21 n.toNatClampNeg n.toNatClampNeg)) | _ => none)
  | .anewarray idx => (match cpC (mow M) idx with
    | some (10, _) => (match st with | .int n :: r => gd (decide (0 ≤ n.toInt ∧ n.toInt ≤ 1000000)) (k nx ls (.ref (nn h + 1) :: r) (mk h 22 n.toNatClampNeg n.toNatClampNeg)) | _ => none)
    | _ => none)
  | .arraylength => (match st with | .ref a :: r => gd (isA (tg h a)) (k nx ls (.int (Int32.ofNat (ln h a)) :: r) h) | .retAddr _ :: r => k nx ls (.int (Int32.ofNat L) :: r) h | _ => none)
  | .iaload => (match st with
    | .int j :: .ref a :: r => gd (decide (tg h a = 20) && inb j (ln h a)) (k nx ls (.int (eI h a j.toNatClampNeg) :: r) h)
    | .int j :: .retAddr _ :: r => gd (inb j L) (k nx ls (.int (xs j.toNatClampNeg) :: r) h)
    | _ => none)
  | .laload => (match st with | .int j :: .ref a :: r => gd (decide (tg h a = 21) && inb j (ln h a)) (k nx ls (.long (eL h a j.toNatClampNeg) :: r) h) | _ => none)
  | .aaload => (match st with | .int j :: .ref a :: r => gd (decide (tg h a = 22) && inb j (ln h a)) (k nx ls (.ref (eR h a j.toNatClampNeg) :: r) h) | _ => none)
  | .iastore => (match st with | .int x :: .int j :: .ref a :: r => gd (decide (tg h a = 20) && inb j (ln h a)) (k nx ls r (sI h a j.toNatClampNeg x)) | _ => none)
  | .lastore => (match st with | .long x :: .int j :: .ref a :: r => gd (decide (tg h a = 21) && inb j (ln h a)) (k nx ls r (sL h a j.toNatClampNeg x)) | _ => none)
  | .aastore => (match st with | .ref x :: .int j :: .ref a :: r => gd (decide (tg h a = 22) && inb j (ln h a) && decide (ins 10 (tg h x) = some 1)) (k nx ls r (sR h a j.toNatClampNeg x)) | _ => none)
  | .instanceof idx => (match cpC (mow M) idx with
    | some (c, _) => (match st with | .ref a :: r => if a = 0 then k nx ls (.int 0 :: r) h else gd (decide (ins c (tg h a) = some 1 ∨ ins c (tg h a) = some 0)) (k nx ls (.int (if ins c (tg h a) = some 1 then 1 else 0) :: r) h) | _ => none)
    | none => none)
  | .checkcast idx => (match cpC (mow M) idx with
    | some (c, _) => (match st with | .ref a :: r => gd (decide (a = 0) || decide (ins c (tg h a) = some 1)) (k nx ls (.ref a :: r) h) | _ => none)
    | none => none)
  | .invokestatic idx => (match cpM (mow M) idx with
    | some (7, _) => (match st with | .int y :: .int x :: r => gd (decide (catS r ≤ 8)) (k nx ls (.int (if x < y then y else x) :: r) h) | _ => none)
    | some (_, np, rk, _) => (match takeA np [] st with | some (as, r) => gd (decide (catS r ≤ 8)) (bK rk (cfD cf (mow M) idx 0 as h) fun v h1 => k nx ls (v ++ r) h1) | none => none)
    | none => none)
  | .invokespecial idx => (match cpM (mow M) idx with
    | some (4, _) => (match st with | .ref a :: r => gd (decide (a ≠ 0) && decide (catS r ≤ 8)) (k nx ls r h) | _ => none)
    | some (_, np, rk, _) => (match takeA np [] st with | some (as, .ref a :: r) => gd (decide (a ≠ 0) && decide (catS r ≤ 8)) (bK rk (cfD cf (mow M) idx 0 (.ref a :: as) h) fun v h1 => k nx ls (v ++ r) h1) | _ => none)
    | none => none)
  | .invokevirtual idx => (match cpM (mow M) idx with
    | some (_, np, rk, _) => (match takeA np [] st with | some (as, .ref a :: r) => gd (decide (a ≠ 0) && decide (catS r ≤ 8)) (bK rk (cfD cf (mow M) idx (tg h a) (.ref a :: as) h) fun v h1 => k nx ls (v ++ r) h1) | _ => none)
    | none => none)
  | .ireturn => (match st with | [.int x] => gd (decide (mrk M = 1) || (decide (mrk M = 4) && decide (x &&& 1 = x))) (some (h, some (.int x))) | _ => none)
  | .lreturn => (match st with | [.long x] => gd (decide (mrk M = 2)) (some (h, some (.long x))) | _ => none)
  | .areturn => (match st with | [.ref x] => gd (decide (mrk M = 3)) (some (h, some (.ref x))) | _ => none)
  | .return_ => (match st with | [] => gd (decide (mrk M = 0)) (some (h, none)) | _ => none)
  | _ => none
def stepK (L : Nat) (xs : Nat → Int32) (cf : Nat → List Value → AH → Option Out) (k : Nat → List Value → List Value → AH → Option Out) (M pc : Nat) (ls st : List Value) (h : AH) : Option Out :=
  match fetch M pc with
  | some (i, nx) => stepI L xs cf k M pc nx i ls st h
  | none => none
def ex (L : Nat) (xs : Nat → Int32) : Nat → Nat → Nat → List Value → List Value → AH → Option Out
  | 0, _, _, _, _, _ => none
  | n + 1, M, pc, ls, st, h => stepK L xs (fun M' as h' => ex L xs n M' 0 (initL M' as) [] h') (ex L xs n M) M pc ls st h
