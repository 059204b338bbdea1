/-! A symbolic executor over the small machine: words that the kernel works out. A value is a kind (0 int, 1 long, 2 reference), a symbol and an offset (symbol 0 is 0). -/
def sx_le (a b : Int) : Bool := match a, b with
  | .ofNat m, .ofNat n => Nat.ble m n
  | .negSucc _, .ofNat _ => true
  | .ofNat _, .negSucc _ => false
  | .negSucc m, .negSucc n => Nat.ble n m
def sx_eq (a b : Int) : Bool := match a, b with
  | .ofNat m, .ofNat n => Nat.beq m n
  | .negSucc m, .negSucc n => Nat.beq m n
  | .negSucc _, .ofNat _ => false
  | .ofNat _, .negSucc _ => false
def sx_lt (a b : Int) : Bool := match sx_le b a with
  | true => false
  | false => true
def sx_mx (a b : Int) : Int := bif sx_le a b then b else a
def sx_mn (a b : Int) : Int := bif sx_le a b then a else b
def sx_an (a b : Bool) : Bool := bif a then b else false
def sx_lo32 : Int := .negSucc 2147483647
def sx_hi32 : Int := .ofNat 2147483647
def sx_lo64 : Int := .negSucc 9223372036854775807
def sx_hi64 : Int := .ofNat 9223372036854775807
abbrev sx_A : Type := Nat × Int
abbrev sx_V : Type := Nat × Nat × Int
abbrev sx_L : Type := List (Nat × sx_V)
/-- of a cell: 0 as at the start, 1 written since, 2 forgotten; what is known on top of that -/
abbrev sx_F : Type := Nat × List (sx_A × sx_A)
def sx_T : Nat → Type
  | 0 => sx_F
  | n + 1 => sx_T n × sx_T n
noncomputable def sx_tg (n : Nat) : sx_T n → Nat → sx_F := n.rec (motive := fun n => sx_T n → Nat → sx_F) (fun t _ => t) (fun _ ih t k => bif Nat.beq (Nat.mod k 2) 0 then ih t.1 (Nat.div k 2) else ih t.2 (Nat.div k 2))
noncomputable def sx_ts (n : Nat) : sx_T n → Nat → sx_F → sx_T n := n.rec (motive := fun n => sx_T n → Nat → sx_F → sx_T n) (fun _ _ v => v) (fun _ ih t k v => bif Nat.beq (Nat.mod k 2) 0 then (ih t.1 (Nat.div k 2) v, t.2) else (t.1, ih t.2 (Nat.div k 2) v))
noncomputable def sx_t0 (n : Nat) (v : sx_F) : sx_T n := n.rec (motive := fun n => sx_T n) v (fun _ ih => (ih, ih))
/-- a symbol, and of what it is the outcome: operation and two values -/
abbrev sx_M : Type := Nat × Nat × sx_A × sx_A
/-- next symbol; symbol within; symbol not, and outcomes; what is known of cells -/
abbrev sx_S : Type := Nat × List (Nat × Int × Int) × (List (Nat × Int) × List sx_M) × sx_T 7
noncomputable def sx_fi (F : List (Nat × Int × Int)) (s : Nat) : Int × Int := F.rec (sx_lo64, sx_hi64) (fun q _ ih => bif Nat.beq q.1 s then q.2 else ih)
noncomputable def sx_nh (N : List (Nat × Int)) (s : Nat) (v : Int) : Bool := N.rec false (fun q _ ih => bif sx_an (Nat.beq q.1 s) (sx_eq q.2 v) then true else ih)
noncomputable def sx_ti (N : List (Nat × Int)) (s : Nat) (n : Nat) : Int × Int → Int × Int := n.rec (fun p => p) (fun _ ih p => bif sx_nh N s p.1 then ih (p.1 + 1, p.2) else bif sx_nh N s p.2 then ih (p.1, p.2 - 1) else p)
noncomputable def sx_si (t : sx_S) (s : Nat) : Int × Int := sx_ti t.2.2.1.1 s 4 (sx_fi t.2.1 s)
noncomputable def sx_iv (t : sx_S) (a : sx_A) : Int × Int := bif Nat.beq a.1 0 then (a.2, a.2) else ((sx_si t a.1).1 + a.2, (sx_si t a.1).2 + a.2)
noncomputable def sx_k (t : sx_S) (a : sx_A) : Option Int := bif Nat.beq a.1 0 then some a.2 else bif sx_eq (sx_iv t a).1 (sx_iv t a).2 then some (sx_iv t a).1 else none
noncomputable def sx_n (t : sx_S) (a : sx_A) : sx_A := match sx_k t a with
  | some c => (0, c)
  | none => a
/-- the value a lies within lo, hi -/
noncomputable def sx_ff (s : Nat) (F : List (Nat × Int × Int)) : List (Nat × Int × Int) := F.rec [] (fun q _ ih => bif Nat.beq q.1 s then ih else q :: ih)
noncomputable def sx_cap (t : sx_S) (a : sx_A) (lo hi : Int) : sx_S := bif Nat.beq a.1 0 then t else (t.1, (a.1, sx_mx (sx_si t a.1).1 (lo - a.2), sx_mn (sx_si t a.1).2 (hi - a.2)) :: sx_ff a.1 t.2.1, t.2.2)
noncomputable def sx_not (t : sx_S) (a : sx_A) (v : Int) : sx_S := bif Nat.beq a.1 0 then t else (t.1, t.2.1, ((a.1, v - a.2) :: t.2.2.1.1, t.2.2.1.2), t.2.2.2)
def sx_ae (a b : sx_A) : Bool := sx_an (Nat.beq a.1 b.1) (sx_eq a.2 b.2)
noncomputable def sx_ane (t : sx_S) (a b : sx_A) : Bool := bif Nat.beq a.1 b.1 then (match sx_eq a.2 b.2 with
  | true => false
  | false => true) else (bif sx_lt (sx_iv t a).2 (sx_iv t b).1 then true else sx_lt (sx_iv t b).2 (sx_iv t a).1)
/-- what cells are: 0 an array (its kind, length, range, references), 1 an object (its class, -, -, fields: kind, range, reference) -/
abbrev sx_H : Type := Nat × Nat × Nat × (Int × Int) × List (Nat × (Int × Int) × Nat)
noncomputable def sx_nth {α : Type} (l : List α) : Nat → Option α := l.rec (fun _ => none) (fun a _ ih n => bif Nat.beq n 0 then some a else ih (Nat.sub n 1))
noncomputable def sx_scan (t : sx_S) (i : sx_A) (es : List (sx_A × sx_A)) : Option (Option sx_A) := es.rec (some none) (fun e _ ih => bif sx_ae e.1 i then some (some e.2) else bif sx_ane t e.1 i then ih else none)
noncomputable def sx_fresh (t : sx_S) (r : Int × Int) : sx_A × sx_S := ((t.1, 0), (t.1 + 1, (t.1, r) :: t.2.1, t.2.2))
noncomputable def sx_frl (t : sx_S) (k : Nat) (i : sx_A) (r : Int × Int) : sx_A × sx_S := ((t.1, 0), (t.1 + 1, (t.1, r) :: t.2.1, t.2.2.1, sx_ts 7 t.2.2.2 k ((sx_tg 7 t.2.2.2 k).1, (i, (t.1, 0)) :: (sx_tg 7 t.2.2.2 k).2)))
/-- what is known of cell k at i -/
noncomputable def sx_kn (bs : Nat → Int → Option Int) (t : sx_S) (k : Nat) (i : sx_A) : Option sx_A := match sx_scan t i (sx_tg 7 t.2.2.2 k).2 with
  | some (some v) => some v
  | some none => bif Nat.beq (sx_tg 7 t.2.2.2 k).1 2 then none else bif Nat.beq i.1 0 then (match bs k i.2 with
    | some c => some (0, c)
    | none => none) else none
  | none => none
noncomputable def sx_ld (bs : Nat → Int → Option Int) (t : sx_S) (k : Nat) (i : sx_A) (r : Int × Int) : sx_A × sx_S := match sx_kn bs t k i with
  | some v => (v, t)
  | none => sx_frl t k i r
noncomputable def sx_flt (i : sx_A) (es : List (sx_A × sx_A)) : List (sx_A × sx_A) := es.rec [] (fun e _ ih => bif sx_ae e.1 i then ih else e :: ih)
def sx_wr (f : Nat) : Nat := bif Nat.beq f 0 then 1 else f
noncomputable def sx_put (t : sx_S) (k : Nat) (i v : sx_A) : sx_S := (t.1, t.2.1, t.2.2.1, sx_ts 7 t.2.2.2 k (sx_wr (sx_tg 7 t.2.2.2 k).1, (i, v) :: sx_flt i (sx_tg 7 t.2.2.2 k).2))
noncomputable def sx_sto (bs : Nat → Int → Option Int) (t : sx_S) (k : Nat) (i v : sx_A) : sx_S := match sx_kn bs t k i with
  | some w => bif sx_ae w v then t else sx_put t k i v
  | none => sx_put t k i v
def sx_in (p r : Int × Int) : Bool := sx_an (sx_le r.1 p.1) (sx_le p.2 r.2)
def sx_r32 : Int × Int := (sx_lo32, sx_hi32)
def sx_r64 : Int × Int := (sx_lo64, sx_hi64)
-- ints
def sx_sem32 (op : Nat) (x y : Int32) : Int32 := match op with
  | 0 => x + y
  | 1 => x - y
  | 2 => x * y
  | 3 => x &&& y
  | 4 => x ||| y
  | 5 => x ^^^ y
  | 6 => x / y
  | 7 => x - x / y * y
  | 8 => x <<< (y &&& 31)
  | 9 => x >>> (y &&& 31)
  | _ => (x.toUInt32 >>> (y.toUInt32 &&& Int32.toUInt32 31)).toInt32
def sx_sem64 (op : Nat) (x y : Int64) : Int64 := match op with
  | 0 => x + y
  | 1 => x - y
  | 2 => x * y
  | 3 => x &&& y
  | 4 => x ||| y
  | 6 => x / y
  | 7 => x - x / y * y
  | 8 => x <<< (y &&& 63)
  | _ => (x.toUInt64 >>> (y.toUInt64 &&& Int64.toUInt64 63)).toInt64
def sx_isd (op : Nat) : Bool := bif Nat.beq op 6 then true else Nat.beq op 7
/-- sums, differences, products as of whole numbers -/
def sx_pl (op : Nat) (a b : Int) : Option Int := match op with
  | 0 => some (a + b)
  | 1 => some (a - b)
  | 2 => some (a * b)
  | _ => none
noncomputable def sx_kk32 (op : Nat) (a b : Int) : Option Int := match sx_pl op a b with
  | some c => bif sx_in (c, c) sx_r32 then some c else some (sx_sem32 op (Int32.ofInt a) (Int32.ofInt b)).toInt
  | none => bif sx_an (sx_isd op) (sx_eq b 0) then none else some (sx_sem32 op (Int32.ofInt a) (Int32.ofInt b)).toInt
noncomputable def sx_kk64 (op : Nat) (a b : Int) : Option Int := match sx_pl op a b with
  | some c => bif sx_in (c, c) sx_r64 then some c else some (sx_sem64 op (Int64.ofInt a) (Int64.ofInt b)).toInt
  | none => bif sx_an (sx_isd op) (sx_eq b 0) then none else some (sx_sem64 op (Int64.ofInt a) (Int64.ofInt b)).toInt
/-- the range of what isn't known -/
noncomputable def sx_rg (op : Nat) (p q : Int × Int) (r : Int × Int) : Int × Int := match op with
  | 0 => bif sx_in (p.1 + q.1, p.2 + q.2) r then (p.1 + q.1, p.2 + q.2) else r
  | 1 => bif sx_in (p.1 - q.2, p.2 - q.1) r then (p.1 - q.2, p.2 - q.1) else r
  | 2 => bif sx_an (sx_an (sx_le 0 p.1) (sx_le 0 q.1)) (sx_in (p.1 * q.1, p.2 * q.2) r) then (p.1 * q.1, p.2 * q.2) else r
  | _ => r
noncomputable def sx_mq (l : List sx_M) (g : Nat) (x y : sx_A) : Option Nat := l.rec none (fun q _ ih => bif sx_an (Nat.beq q.2.1 g) (sx_an (sx_ae q.2.2.1 x) (sx_ae q.2.2.2 y)) then some q.1 else ih)
/-- the outcome of an operation: the symbol that it has, or a new one -/
noncomputable def sx_mem (t : sx_S) (g : Nat) (x y : sx_A) (r : Int × Int) : sx_A × sx_S := match sx_mq t.2.2.1.2 g x y with
  | some v => ((v, 0), t)
  | none => ((t.1, 0), (t.1 + 1, (t.1, r) :: t.2.1, (t.2.2.1.1, (t.1, g, x, y) :: t.2.2.1.2), t.2.2.2))
noncomputable def sx_un (r : Int × Int) (op : Nat) (t : sx_S) (x y : sx_A) : Option (sx_A × sx_S) := bif sx_an (sx_isd op) (sx_an (sx_an (sx_le (sx_iv t y).1 0) (sx_le 0 (sx_iv t y).2)) (bif sx_nh t.2.2.1.1 y.1 (0 - y.2) then false else true)) then none else some (sx_mem t (bif sx_eq r.2 sx_hi32 then op else op + 32) (sx_n t x) (sx_n t y) (sx_rg op (sx_iv t x) (sx_iv t y) r))
/-- a symbol and a number -/
noncomputable def sx_off (r : Int × Int) (op : Nat) (t : sx_S) (x : sx_A) (b : Int) : Option sx_A := match op with
  | 0 => bif sx_in ((sx_iv t x).1 + b, (sx_iv t x).2 + b) r then some (x.1, x.2 + b) else none
  | 1 => bif sx_in ((sx_iv t x).1 - b, (sx_iv t x).2 - b) r then some (x.1, x.2 - b) else none
  | _ => none
noncomputable def sx_bin (r : Int × Int) (kk : Nat → Int → Int → Option Int) (op : Nat) (t : sx_S) (x y : sx_A) : Option (sx_A × sx_S) := match sx_k t x, sx_k t y with
  | some a, some b => (match kk op a b with
    | some c => some ((0, c), t)
    | none => none)
  | some a, none => bif Nat.beq op 0 then (match sx_off r 0 t y a with
    | some v => some (v, t)
    | none => sx_un r op t x y) else sx_un r op t x y
  | none, some b => (match sx_off r op t x b with
    | some v => some (v, t)
    | none => sx_un r op t x y)
  | none, none => sx_un r op t x y
noncomputable def sx_cv (g : Nat) (r : Int × Int) (f : Int → Int) (t : sx_S) (x : sx_A) : sx_A × sx_S := bif sx_in (sx_iv t x) r then (x, t) else match sx_k t x with
  | some c => ((0, f c), t)
  | none => sx_mem t g x (0, 0) r
-- branches
noncomputable def sx_fe (t : sx_S) (x y : sx_A) (b : Bool) (l : List (Bool × sx_S)) : List (Bool × sx_S) := bif sx_an (sx_le (sx_iv t x).1 (sx_iv t x).2) (sx_le (sx_iv t y).1 (sx_iv t y).2) then (b, t) :: l else l
/-- what was found when two values were compared: 80 less, 81 not less, 82 equal, 83 not equal -/
noncomputable def sx_kl (l : List sx_M) (a b : Nat) (c : Int) : Option Bool := l.rec none (fun q _ ih => bif Nat.beq q.1 0 then (bif sx_an (Nat.beq q.2.2.1.1 a) (Nat.beq q.2.2.2.1 b) then
    (bif Nat.beq q.2.1 80 then (bif sx_le (q.2.2.2.2 - q.2.2.1.2) c then some true else ih) else bif Nat.beq q.2.1 81 then (bif sx_le c (q.2.2.2.2 - q.2.2.1.2) then some false else ih) else ih)
  else bif sx_an (Nat.beq q.2.2.1.1 b) (Nat.beq q.2.2.2.1 a) then
    (bif Nat.beq q.2.1 80 then (bif sx_le (c + (q.2.2.2.2 - q.2.2.1.2)) 1 then some false else ih) else bif Nat.beq q.2.1 81 then (bif sx_le 1 (c + (q.2.2.2.2 - q.2.2.1.2)) then some true else ih) else ih)
  else ih) else ih)
noncomputable def sx_ke (l : List sx_M) (a b : Nat) (c : Int) : Option Bool := l.rec none (fun q _ ih => bif Nat.beq q.1 0 then (bif sx_an (sx_an (Nat.beq q.2.2.1.1 a) (Nat.beq q.2.2.2.1 b)) (sx_eq (q.2.2.2.2 - q.2.2.1.2) c) then
    (bif Nat.beq q.2.1 82 then some true else bif Nat.beq q.2.1 83 then some false else ih)
  else bif sx_an (sx_an (Nat.beq q.2.2.1.1 b) (Nat.beq q.2.2.2.1 a)) (sx_eq (q.2.2.1.2 - q.2.2.2.2) c) then
    (bif Nat.beq q.2.1 82 then some true else bif Nat.beq q.2.1 83 then some false else ih)
  else ih) else ih)
def sx_ml (t : sx_S) (g : Nat) (x y : sx_A) : sx_S := bif Nat.beq x.1 0 then t else bif Nat.beq y.1 0 then t else (t.1, t.2.1, (t.2.2.1.1, (0, g, x, y) :: t.2.2.1.2), t.2.2.2)
noncomputable def sx_clt (t : sx_S) (x y : sx_A) : List (Bool × sx_S) := bif sx_lt (sx_iv t x).2 (sx_iv t y).1 then [(true, t)] else bif sx_le (sx_iv t y).2 (sx_iv t x).1 then [(false, t)] else bif Nat.beq x.1 y.1 then [(sx_lt x.2 y.2, t)] else match sx_kl t.2.2.1.2 x.1 y.1 (y.2 - x.2) with
  | some b => [(b, t)]
  | none => sx_fe (sx_ml (sx_cap (sx_cap t x sx_lo64 ((sx_iv t y).2 - 1)) y ((sx_iv t x).1 + 1) sx_hi64) 80 x y) x y true (sx_fe (sx_ml (sx_cap (sx_cap t x (sx_iv t y).1 sx_hi64) y sx_lo64 (sx_iv t x).2) 81 x y) x y false [])
noncomputable def sx_nek (t u : sx_S) (x y : sx_A) : sx_S := match sx_k t y with
  | some c => sx_not u x c
  | none => u
noncomputable def sx_nes (t : sx_S) (x y : sx_A) : Bool := match sx_k t y with
  | some c => sx_nh t.2.2.1.1 x.1 (c - x.2)
  | none => false
noncomputable def sx_ceq (t : sx_S) (x y : sx_A) : List (Bool × sx_S) := bif sx_lt (sx_iv t x).2 (sx_iv t y).1 then [(false, t)] else bif sx_lt (sx_iv t y).2 (sx_iv t x).1 then [(false, t)] else bif Nat.beq x.1 y.1 then [(sx_eq x.2 y.2, t)] else
  match sx_k t x, sx_k t y with
  | some a, some b => [(sx_eq a b, t)]
  | _, _ => bif sx_nes t x y then [(false, t)] else bif sx_nes t y x then [(false, t)] else match sx_ke t.2.2.1.2 x.1 y.1 (y.2 - x.2) with
    | some b => [(b, t)]
    | none => sx_fe (sx_ml (sx_cap (sx_cap t x (sx_iv t y).1 (sx_iv t y).2) y (sx_iv t x).1 (sx_iv t x).2) 82 x y) x y true (sx_fe (sx_ml (sx_nek t (sx_nek t t x y) y x) 83 x y) x y false [])
def sx_neg (l : List (Bool × sx_S)) : List (Bool × sx_S) := l.map fun q => (bif q.1 then false else true, q.2)
noncomputable def sx_cmp (c : Jvm.ClassFile.Cond) (t : sx_S) (x y : sx_A) : List (Bool × sx_S) := match c with
  | .lt => sx_clt t x y
  | .ge => sx_neg (sx_clt t x y)
  | .gt => sx_clt t y x
  | .le => sx_neg (sx_clt t y x)
  | .eq => sx_ceq t x y
  | .ne => sx_neg (sx_ceq t x y)
/-- one way for each value -/
noncomputable def sx_rn (n : Nat) (lo : Int) : List Int := n.rec [] (fun k ih => (lo + Int.ofNat k) :: ih)
noncomputable def sx_spl (t : sx_S) (a : sx_A) : Option (List (Int × sx_S)) := match sx_k t a with
  | some c => some [(c, t)]
  | none => bif sx_le ((sx_iv t a).2 - (sx_iv t a).1) 300 then some ((sx_rn (((sx_iv t a).2 - (sx_iv t a).1) + 1).toNat (sx_iv t a).1).map fun v => (v, sx_cap t a v v)) else none
noncomputable def sx_all {α : Type} (l : List (Option α)) : Option (List α) := l.rec (some []) (fun a _ ih => match a with
  | some v => (match ih with
    | some r => some (v :: r)
    | none => none)
  | none => none)
-- instructions
abbrev sx_O : Type := Nat × sx_L × List sx_V × sx_S
noncomputable def sx_lv (lv : sx_L) (i : Nat) : Option sx_V := lv.rec none (fun q _ ih => bif Nat.beq q.1 i then some q.2 else ih)
noncomputable def sx_s1 (lv : sx_L) (i : Nat) (v : sx_V) : sx_L := (i, v) :: lv.rec [] (fun q _ ih => bif Nat.beq q.1 i then ih else bif sx_an (Nat.beq (q.1 + 1) i) (Nat.beq q.2.1 1) then ih else q :: ih)
noncomputable def sx_s2 (lv : sx_L) (i : Nat) (v : sx_V) : sx_L := (i, v) :: lv.rec [] (fun q _ ih => bif Nat.beq q.1 i then ih else bif Nat.beq q.1 (i + 1) then ih else bif sx_an (Nat.beq (q.1 + 1) i) (Nat.beq q.2.1 1) then ih else q :: ih)
def sx_i1 (s : List sx_V) (k : sx_A → List sx_V → Option (List sx_O)) : Option (List sx_O) := match s with
  | v :: r => bif Nat.beq v.1 0 then k v.2 r else none
  | [] => none
def sx_l1 (s : List sx_V) (k : sx_A → List sx_V → Option (List sx_O)) : Option (List sx_O) := match s with
  | v :: r => bif Nat.beq v.1 1 then k v.2 r else none
  | [] => none
def sx_a1 (s : List sx_V) (k : Nat → List sx_V → Option (List sx_O)) : Option (List sx_O) := match s with
  | v :: r => bif Nat.beq v.1 2 then k v.2.2.toNat r else none
  | [] => none
def sx_pv (k n pc : Nat) (lv : sx_L) (s : List sx_V) (o : Option (sx_A × sx_S)) : Option (List sx_O) := match o with
  | some v => some [(pc + n, lv, (k, v.1) :: s, v.2)]
  | none => none
def sx_go (pc : Nat) (lv : sx_L) (s : List sx_V) (t : sx_S) : Option (List sx_O) := some [(pc, lv, s, t)]
def sx_get (k n pc : Nat) (lv : sx_L) (s : List sx_V) (t : sx_S) (o : Option sx_V) : Option (List sx_O) := match o with
  | some v => bif Nat.beq v.1 k then some [(pc + n, lv, v :: s, t)] else none
  | none => none
def sx_br (o : Option Nat) (pc : Nat) (lv : sx_L) (s : List sx_V) (l : List (Bool × sx_S)) : Option (List sx_O) := match o with
  | some g => some (l.map fun q => (bif q.1 then g else pc + 3, lv, s, q.2))
  | none => none
def sx_to (lv : sx_L) (s : List sx_V) (q : Option Nat × sx_S) : Option sx_O := match q.1 with
  | some g => some (g, lv, s, q.2)
  | none => none
def sx_otg (pc : Nat) (o : Option Int) : Option Nat := match o with
  | some z => sm_tg pc z
  | none => none
noncomputable def sx_tab (t : sx_S) (x : sx_A) (pc : Nat) (dflt lo hi : Int) (offs : List Int) : List (Option Nat × sx_S) :=
  let a := (bif sx_lt (sx_iv t x).1 lo then [(sm_tg pc dflt, sx_cap t x sx_lo64 (lo - 1))] else [])
  let b := (bif sx_lt hi (sx_iv t x).2 then [(sm_tg pc dflt, sx_cap t x (hi + 1) sx_hi64)] else [])
  let u := sx_mx lo (sx_iv t x).1
  let w := sx_mn hi (sx_iv t x).2
  a ++ (b ++ (sx_rn (w - u + 1).toNat u).map fun v => (sx_otg pc (sx_nth offs (v - lo).toNat), sx_cap t x v v))
noncomputable def sx_look (t : sx_S) (x : sx_A) (pc : Nat) (dflt : Int) (ps : List (Int × Int)) : List (Option Nat × sx_S) := match sx_k t x with
  | some c => [(sm_tg pc (Op.lookupswitch.offset ps dflt c), t)]
  | none => (sm_tg pc dflt, t) :: ((ps.filter fun q => sx_an (sx_le (sx_iv t x).1 q.1) (sx_le q.1 (sx_iv t x).2)).map fun q => (sm_tg pc (Op.lookupswitch.offset ps dflt q.1), sx_cap t x q.1 q.1))
def sx_sum (s : List sx_V) : Nat := match s with
  | [] => 0
  | v :: r => (bif Nat.beq v.1 1 then 2 else 1) + sx_sum r
def sx_bi (d : Nat) (r : List sx_V) : Bool := sx_an (Nat.ble 1 d) (Nat.ble (sx_sum r) 8)
noncomputable def sx_fld (ly : Nat → Option sx_H) (a ci k : Nat) : Option (Nat × (Int × Int) × Nat) := match ly a with
  | some h => bif sx_an (Nat.beq h.1 1) (Nat.beq h.2.1 ci) then sx_nth h.2.2.2.2 k else none
  | none => none
noncomputable def sx_arr (ly : Nat → Option sx_H) (a ty : Nat) : Option sx_H := match ly a with
  | some h => bif sx_an (Nat.beq h.1 0) (Nat.beq h.2.1 ty) then some h else none
  | none => none
noncomputable def sx_ix (t : sx_S) (i : sx_A) (n : Nat) : Bool := sx_an (sx_le 0 (sx_iv t i).1) (sx_lt (sx_iv t i).2 (Int.ofNat n))
/-- an element of an array of ints or longs -/
noncomputable def sx_al (bs : Nat → Int → Option Int) (ly : Nat → Option sx_H) (sp : Bool) (ty k pc : Nat) (lv : sx_L) (s : List sx_V) (t : sx_S) (a : Nat) (i : sx_A) : Option (List sx_O) := match sx_arr ly a ty with
  | some h => bif sx_ix t i h.2.2.1 then (bif sp then (match sx_spl t i with
      | some l => some (l.map fun q => (pc + 1, lv, (k, sx_n (sx_ld bs q.2 a (0, q.1) h.2.2.2.1).2 (sx_ld bs q.2 a (0, q.1) h.2.2.2.1).1) :: s, (sx_ld bs q.2 a (0, q.1) h.2.2.2.1).2))
      | none => none) else some [(pc + 1, lv, (k, sx_n (sx_ld bs t a i h.2.2.2.1).2 (sx_ld bs t a i h.2.2.2.1).1) :: s, (sx_ld bs t a i h.2.2.2.1).2)]) else none
  | none => none
noncomputable def sx_ro (rc : List (List Int)) (ib : sx_A) (pc : Nat) (lv : sx_L) (s : List sx_V) (t : sx_S) (a : Nat) (i : sx_A) : Option (List sx_O) := bif Nat.beq a 0 then
    (bif sx_an (Nat.beq i.1 ib.1) (sx_an (sx_le 0 (i.2 - ib.2)) (sx_an (sx_le (i.2 - ib.2) 5) (sx_le 0 (sx_iv t i).1))) then some [(pc + 1, lv, (0, sx_n t ((i.2 - ib.2).toNat + 1, 0)) :: s, t)] else none)
  else match sx_nth rc (Nat.sub a 1) with
  | some l => bif sx_ix t i l.length then (match sx_spl t i with
      | some w => some (w.map fun q => (pc + 1, lv, (0, 0, (sx_nth l q.1.toNat).getD 0) :: s, q.2))
      | none => none) else none
  | none => none
noncomputable def sx_as (bs : Nat → Int → Option Int) (ly : Nat → Option sx_H) (ty pc : Nat) (lv : sx_L) (s : List sx_V) (t : sx_S) (a : Nat) (i v : sx_A) : Option (List sx_O) := match sx_arr ly a ty with
  | some h => bif sx_an (sx_ix t i h.2.2.1) (sx_in (sx_iv t v) h.2.2.2.1) then some [(pc + 1, lv, s, sx_sto bs t a (sx_n t i) (sx_n t v))] else none
  | none => none
/-- n elements of cell k from p on -/
noncomputable def sx_cl (bs : Nat → Int → Option Int) (r : Int × Int) (k : Nat) (n : Nat) : sx_S → Int → List sx_A × sx_S := n.rec (fun t _ => ([], t)) (fun _ ih t p => ((sx_ld bs t k (0, p) r).1 :: (ih (sx_ld bs t k (0, p) r).2 (p + 1)).1, (ih (sx_ld bs t k (0, p) r).2 (p + 1)).2))
noncomputable def sx_cs (bs : Nat → Int → Option Int) (k : Nat) (l : List sx_A) : sx_S → Int → sx_S := l.rec (fun t _ => t) (fun v _ ih t p => ih (sx_sto bs t k (0, p) (sx_n t v)) (p + 1))
noncomputable def sx_cp0 (bs : Nat → Int → Option Int) (ly : Nat → Option sx_H) (ty pc : Nat) (lv : sx_L) (s : List sx_V) (t : sx_S) (a0 a : Nat) (sp dp n : sx_A) : Option (List sx_O) := match sx_k t sp, sx_k t dp, sx_k t n, sx_arr ly a0 ty, sx_arr ly a ty with
  | some p, some q, some m, some g, some h => bif sx_an (sx_an (sx_le 0 p) (sx_le 0 q)) (sx_an (sx_le 0 m) (sx_an (sx_le (p + m) (Int.ofNat g.2.2.1)) (sx_an (sx_le (q + m) (Int.ofNat h.2.2.1)) (sx_in g.2.2.2.1 h.2.2.2.1)))) then
      some [(pc + 3, lv, s, sx_cs bs a (sx_cl bs g.2.2.2.1 a0 m.toNat t p).1 (sx_cl bs g.2.2.2.1 a0 m.toNat t p).2 q)] else none
  | _, _, _, _, _ => none
/-- i and n together are at most m -/
noncomputable def sx_bn (t : sx_S) (i n : sx_A) (m : Int) : Bool := bif sx_le ((sx_iv t i).2 + (sx_iv t n).2) m then true else t.2.2.1.2.any fun q => sx_an (sx_an (Nat.beq q.2.1 1) (sx_ae q.2.2.2 n)) (sx_an (sx_in ((sx_iv t q.2.2.1).1 - (sx_iv t n).2, (sx_iv t q.2.2.1).2 - (sx_iv t n).1) sx_r32) (sx_an (sx_le (sx_iv t q.2.2.1).2 m) (match sx_kl t.2.2.1.2 q.1 i.1 i.2 with
  | some b => bif b then false else true
  | none => false)))
noncomputable def sx_cpf (ly : Nat → Option sx_H) (ty pc : Nat) (lv : sx_L) (s : List sx_V) (t : sx_S) (a0 a : Nat) (sp dp n : sx_A) : Option (List sx_O) := match sx_arr ly a0 ty, sx_arr ly a ty with
  | some g, some h => bif sx_an (sx_an (sx_le 0 (sx_iv t sp).1) (sx_le 0 (sx_iv t dp).1)) (sx_an (sx_le 0 (sx_iv t n).1) (sx_an (sx_bn t sp n (Int.ofNat g.2.2.1)) (sx_an (sx_bn t dp n (Int.ofNat h.2.2.1)) (sx_in g.2.2.2.1 h.2.2.2.1)))) then
      some [(pc + 3, lv, s, (t.1, t.2.1, t.2.2.1, sx_ts 7 t.2.2.2 a (2, [])))] else none
  | _, _ => none
/-- where the places aren't known the whole cell is forgotten -/
noncomputable def sx_cp (bs : Nat → Int → Option Int) (ly : Nat → Option sx_H) (ty pc : Nat) (lv : sx_L) (s : List sx_V) (t : sx_S) (a0 a : Nat) (sp dp n : sx_A) : Option (List sx_O) := match sx_cp0 bs ly ty pc lv s t a0 a sp dp n with
  | some o => some o
  | none => sx_cpf ly ty pc lv s t a0 a sp dp n
noncomputable def sx_abs (t : sx_S) (x : sx_A) (b : Bool) : sx_A × sx_S := bif b then (match sx_k t x with
  | some c => ((0, (0 - Int32.ofInt c).toInt), t)
  | none => sx_fresh t sx_r32) else (x, t)
/-- few values times a number: one way for each -/
noncomputable def sx_sm (t : sx_S) (x y : sx_A) : Bool := match sx_k t x, sx_k t y with
  | none, some _ => sx_le ((sx_iv t x).2 - (sx_iv t x).1) 7
  | _, _ => false
abbrev sx_Hd : Type := (Nat → Int → Option Int) → (Nat → Option sx_H) → List (List Int) → sx_A → Bool → (Nat → Option sm_L) → Nat → Nat → Nat → sx_L → List sx_V → sx_S → Option (List sx_O)
/-- one instruction that isn't a call of own code and no return: the ways it may go -/
noncomputable def sx_hd (ins : Instr) : Option sx_Hd := match ins with
  | .iconst n => some fun bs ly rc ib sp lk nL d pc lv s t => bif sx_in (n, n) sx_r32 then sx_go (pc + 1) lv ((0, 0, n) :: s) t else none
  | .bipush n => some fun bs ly rc ib sp lk nL d pc lv s t => bif sx_in (n, n) (.negSucc 127, 127) then sx_go (pc + 2) lv ((0, 0, n) :: s) t else none
  | .sipush n => some fun bs ly rc ib sp lk nL d pc lv s t => bif sx_in (n, n) (.negSucc 32767, 32767) then sx_go (pc + 3) lv ((0, 0, n) :: s) t else none
  | .lconst n => some fun bs ly rc ib sp lk nL d pc lv s t => sx_go (pc + 1) lv ((1, 0, Int.ofNat n) :: s) t
  | .iload_n k => some fun bs ly rc ib sp lk nL d pc lv s t => sx_get 0 1 pc lv s t (sx_lv lv k)
  | .iload k => some fun bs ly rc ib sp lk nL d pc lv s t => sx_get 0 2 pc lv s t (sx_lv lv k)
  | .lload_n k => some fun bs ly rc ib sp lk nL d pc lv s t => sx_get 1 1 pc lv s t (sx_lv lv k)
  | .lload k => some fun bs ly rc ib sp lk nL d pc lv s t => sx_get 1 2 pc lv s t (sx_lv lv k)
  | .aload_n k => some fun bs ly rc ib sp lk nL d pc lv s t => sx_get 2 1 pc lv s t (sx_lv lv k)
  | .aload k => some fun bs ly rc ib sp lk nL d pc lv s t => sx_get 2 2 pc lv s t (sx_lv lv k)
  | .istore_n k => some fun bs ly rc ib sp lk nL d pc lv s t => sx_i1 s fun x r => bif Nat.blt k nL then sx_go (pc + 1) (sx_s1 lv k (0, x)) r t else none
  | .istore k => some fun bs ly rc ib sp lk nL d pc lv s t => sx_i1 s fun x r => bif Nat.blt k nL then sx_go (pc + 2) (sx_s1 lv k (0, x)) r t else none
  | .lstore_n k => some fun bs ly rc ib sp lk nL d pc lv s t => sx_l1 s fun x r => bif Nat.blt (k + 1) nL then sx_go (pc + 1) (sx_s2 lv k (1, x)) r t else none
  | .lstore k => some fun bs ly rc ib sp lk nL d pc lv s t => sx_l1 s fun x r => bif Nat.blt (k + 1) nL then sx_go (pc + 2) (sx_s2 lv k (1, x)) r t else none
  | .astore_n k => some fun bs ly rc ib sp lk nL d pc lv s t => sx_a1 s fun x r => bif Nat.blt k nL then sx_go (pc + 1) (sx_s1 lv k (2, 0, Int.ofNat x)) r t else none
  | .astore k => some fun bs ly rc ib sp lk nL d pc lv s t => sx_a1 s fun x r => bif Nat.blt k nL then sx_go (pc + 2) (sx_s1 lv k (2, 0, Int.ofNat x)) r t else none
  | .iinc k n => some fun bs ly rc ib sp lk nL d pc lv s t => match sx_lv lv k with
    | some v => bif sx_an (Nat.beq v.1 0) (sx_an (Nat.blt k nL) (sx_in (n, n) sx_r32)) then (match sx_bin sx_r32 sx_kk32 0 t v.2 (0, n) with
      | some w => sx_go (pc + 3) (sx_s1 lv k (0, w.1)) s w.2
      | none => none) else none
    | none => none
  | .iadd => some fun bs ly rc ib sp lk nL d pc lv s t => sx_i1 s fun y r => sx_i1 r fun x r => sx_pv 0 1 pc lv r (sx_bin sx_r32 sx_kk32 0 t x y)
  | .isub => some fun bs ly rc ib sp lk nL d pc lv s t => sx_i1 s fun y r => sx_i1 r fun x r => sx_pv 0 1 pc lv r (sx_bin sx_r32 sx_kk32 1 t x y)
  | .imul => some fun bs ly rc ib sp lk nL d pc lv s t => sx_i1 s fun y r => sx_i1 r fun x r => bif sx_sm t x y then (match sx_spl t x with
    | some l => sx_all (l.map fun q => match sx_bin sx_r32 sx_kk32 2 q.2 (0, q.1) y with
      | some v => some (pc + 1, lv, (0, v.1) :: r, v.2)
      | none => none)
    | none => none) else sx_pv 0 1 pc lv r (sx_bin sx_r32 sx_kk32 2 t x y)
  | .iand => some fun bs ly rc ib sp lk nL d pc lv s t => sx_i1 s fun y r => sx_i1 r fun x r => sx_pv 0 1 pc lv r (sx_bin sx_r32 sx_kk32 3 t x y)
  | .ior => some fun bs ly rc ib sp lk nL d pc lv s t => sx_i1 s fun y r => sx_i1 r fun x r => sx_pv 0 1 pc lv r (sx_bin sx_r32 sx_kk32 4 t x y)
  | .ixor => some fun bs ly rc ib sp lk nL d pc lv s t => sx_i1 s fun y r => sx_i1 r fun x r => sx_pv 0 1 pc lv r (sx_bin sx_r32 sx_kk32 5 t x y)
  | .idiv => some fun bs ly rc ib sp lk nL d pc lv s t => sx_i1 s fun y r => sx_i1 r fun x r => sx_pv 0 1 pc lv r (sx_bin sx_r32 sx_kk32 6 t x y)
  | .irem => some fun bs ly rc ib sp lk nL d pc lv s t => sx_i1 s fun y r => sx_i1 r fun x r => sx_pv 0 1 pc lv r (sx_bin sx_r32 sx_kk32 7 t x y)
  | .ishl => some fun bs ly rc ib sp lk nL d pc lv s t => sx_i1 s fun y r => sx_i1 r fun x r => sx_pv 0 1 pc lv r (sx_bin sx_r32 sx_kk32 8 t x y)
  | .ishr => some fun bs ly rc ib sp lk nL d pc lv s t => sx_i1 s fun y r => sx_i1 r fun x r => sx_pv 0 1 pc lv r (sx_bin sx_r32 sx_kk32 9 t x y)
  | .iushr => some fun bs ly rc ib sp lk nL d pc lv s t => sx_i1 s fun y r => sx_i1 r fun x r => sx_pv 0 1 pc lv r (sx_bin sx_r32 sx_kk32 10 t x y)
  | .ineg => some fun bs ly rc ib sp lk nL d pc lv s t => sx_i1 s fun x r => sx_pv 0 1 pc lv r (sx_bin sx_r32 sx_kk32 1 t (0, 0) x)
  | .ladd => some fun bs ly rc ib sp lk nL d pc lv s t => sx_l1 s fun y r => sx_l1 r fun x r => sx_pv 1 1 pc lv r (sx_bin sx_r64 sx_kk64 0 t x y)
  | .lsub => some fun bs ly rc ib sp lk nL d pc lv s t => sx_l1 s fun y r => sx_l1 r fun x r => sx_pv 1 1 pc lv r (sx_bin sx_r64 sx_kk64 1 t x y)
  | .lmul => some fun bs ly rc ib sp lk nL d pc lv s t => sx_l1 s fun y r => sx_l1 r fun x r => sx_pv 1 1 pc lv r (sx_bin sx_r64 sx_kk64 2 t x y)
  | .land => some fun bs ly rc ib sp lk nL d pc lv s t => sx_l1 s fun y r => sx_l1 r fun x r => sx_pv 1 1 pc lv r (sx_bin sx_r64 sx_kk64 3 t x y)
  | .lor => some fun bs ly rc ib sp lk nL d pc lv s t => sx_l1 s fun y r => sx_l1 r fun x r => sx_pv 1 1 pc lv r (sx_bin sx_r64 sx_kk64 4 t x y)
  | .ldiv => some fun bs ly rc ib sp lk nL d pc lv s t => sx_l1 s fun y r => sx_l1 r fun x r => sx_pv 1 1 pc lv r (sx_bin sx_r64 sx_kk64 6 t x y)
  | .lrem => some fun bs ly rc ib sp lk nL d pc lv s t => sx_l1 s fun y r => sx_l1 r fun x r => sx_pv 1 1 pc lv r (sx_bin sx_r64 sx_kk64 7 t x y)
  | .lshl => some fun bs ly rc ib sp lk nL d pc lv s t => sx_i1 s fun y r => sx_l1 r fun x r => sx_pv 1 1 pc lv r (sx_bin sx_r64 sx_kk64 8 t x y)
  | .lushr => some fun bs ly rc ib sp lk nL d pc lv s t => sx_i1 s fun y r => sx_l1 r fun x r => sx_pv 1 1 pc lv r (sx_bin sx_r64 sx_kk64 9 t x y)
  | .lcmp => some fun bs ly rc ib sp lk nL d pc lv s t => sx_l1 s fun y r => sx_l1 r fun x r => some ((sx_clt t x y).flatMap fun q => bif q.1 then [(pc + 1, lv, (0, 0, -1) :: r, q.2)] else (sx_clt q.2 y x).map fun w => (pc + 1, lv, (0, 0, bif w.1 then 1 else 0) :: r, w.2))
  | .i2l => some fun bs ly rc ib sp lk nL d pc lv s t => sx_i1 s fun x r => sx_go (pc + 1) lv ((1, x) :: r) t
  | .l2i => some fun bs ly rc ib sp lk nL d pc lv s t => sx_l1 s fun x r => sx_pv 0 1 pc lv r (some (sx_cv 64 sx_r32 (fun c => (Int64.ofInt c).toInt32.toInt) t x))
  | .i2b => some fun bs ly rc ib sp lk nL d pc lv s t => sx_i1 s fun x r => sx_pv 0 1 pc lv r (some (sx_cv 65 (.negSucc 127, 127) (fun c => (Int32.ofInt c).toInt8.toInt) t x))
  | .i2s => some fun bs ly rc ib sp lk nL d pc lv s t => sx_i1 s fun x r => sx_pv 0 1 pc lv r (some (sx_cv 66 (.negSucc 32767, 32767) (fun c => (Int32.ofInt c).toInt16.toInt) t x))
  | .dup => some fun bs ly rc ib sp lk nL d pc lv s t => match s with
    | v :: r => bif Nat.beq v.1 1 then none else sx_go (pc + 1) lv (v :: v :: r) t
    | _ => none
  | .pop => some fun bs ly rc ib sp lk nL d pc lv s t => match s with
    | v :: r => bif Nat.beq v.1 1 then none else sx_go (pc + 1) lv r t
    | _ => none
  | .pop2 => some fun bs ly rc ib sp lk nL d pc lv s t => match s with
    | v :: r => bif Nat.beq v.1 1 then sx_go (pc + 1) lv r t else none
    | _ => none
  | .dup2 => some fun bs ly rc ib sp lk nL d pc lv s t => match s with
    | v :: w :: r => bif Nat.beq v.1 1 then none else bif Nat.beq w.1 1 then none else sx_go (pc + 1) lv (v :: w :: v :: w :: r) t
    | _ => none
  | .dup_x1 => some fun bs ly rc ib sp lk nL d pc lv s t => match s with
    | v :: w :: r => bif Nat.beq v.1 1 then none else bif Nat.beq w.1 1 then none else sx_go (pc + 1) lv (v :: w :: v :: r) t
    | _ => none
  | .goto off => some fun bs ly rc ib sp lk nL d pc lv s t => match sm_tg pc off with
    | some g => sx_go g lv s t
    | none => none
  | .ifCond q off => some fun bs ly rc ib sp lk nL d pc lv s t => sx_i1 s fun x r => sx_br (sm_tg pc off) pc lv r (sx_cmp q t x (0, 0))
  | .if_icmp q off => some fun bs ly rc ib sp lk nL d pc lv s t => sx_i1 s fun y r => sx_i1 r fun x r => sx_br (sm_tg pc off) pc lv r (sx_cmp q t x y)
  | .tableswitch dflt lo hi offs => some fun bs ly rc ib sp lk nL d pc lv s t => sx_i1 s fun x r => sx_all ((sx_tab t x pc dflt lo hi offs.toList).map (sx_to lv r))
  | .lookupswitch dflt ps => some fun bs ly rc ib sp lk nL d pc lv s t => sx_i1 s fun x r => bif (ps.toList.zip (ps.toList.drop 1)).all (fun (a, next) => a.1 < next.1) then sx_all ((sx_look t x pc dflt ps.toList).map (sx_to lv r)) else none
  | .getfield ix => some fun bs ly rc ib sp lk nL d pc lv s t => match lk ix with
    | some (0, ci, k, _) => sx_a1 s fun a r => match sx_fld ly a ci k with
      | some (kd, rg, rf) => bif Nat.beq kd 3 then sx_go (pc + 3) lv ((2, 0, Int.ofNat rf) :: r) t else sx_go (pc + 3) lv ((bif Nat.beq kd 2 then 1 else 0, sx_n (sx_ld bs t a (0, Int.ofNat k) rg).2 (sx_ld bs t a (0, Int.ofNat k) rg).1) :: r) (sx_ld bs t a (0, Int.ofNat k) rg).2
      | none => none
    | _ => none
  | .putfield ix => some fun bs ly rc ib sp lk nL d pc lv s t => match lk ix with
    | some (0, ci, k, z) => match s with
      | v :: w :: r => bif Nat.beq w.1 2 then (match sx_fld ly w.2.2.toNat ci k with
        | some (kd, rg, _) => bif sx_an (sx_eq z (Int.ofNat kd)) (sx_an (Nat.ble kd 2) (sx_an (Nat.beq v.1 (bif Nat.beq kd 2 then 1 else 0)) (sx_in (sx_iv t v.2) rg))) then sx_go (pc + 3) lv r (sx_sto bs t w.2.2.toNat (0, Int.ofNat k) (sx_n t v.2)) else none
        | none => none) else none
      | _ => none
    | _ => none
  | .getstatic ix => some fun bs ly rc ib sp lk nL d pc lv s t => match lk ix with
    | some (8, i, _, _) => bif Nat.blt i 8 then sx_go (pc + 3) lv ((2, 0, Int.ofNat i) :: s) t else none
    | _ => none
  | .ldc ix => some fun bs ly rc ib sp lk nL d pc lv s t => match lk ix with
    | some (6, _, _, z) => bif sx_in (z, z) sx_r32 then sx_go (pc + 2) lv ((0, 0, z) :: s) t else none
    | _ => none
  | .ldc_w ix => some fun bs ly rc ib sp lk nL d pc lv s t => match lk ix with
    | some (6, _, _, z) => bif sx_in (z, z) sx_r32 then sx_go (pc + 3) lv ((0, 0, z) :: s) t else none
    | _ => none
  | .ldc2_w ix => some fun bs ly rc ib sp lk nL d pc lv s t => match lk ix with
    | some (7, _, _, z) => bif sx_in (z, z) sx_r64 then sx_go (pc + 3) lv ((1, 0, z) :: s) t else none
    | _ => none
  | .iaload => some fun bs ly rc ib sp lk nL d pc lv s t => sx_i1 s fun i r => sx_a1 r fun a r => bif Nat.blt a 8 then sx_ro rc ib pc lv r t a i else sx_al bs ly sp 0 0 pc lv r t a i
  | .baload => some fun bs ly rc ib sp lk nL d pc lv s t => sx_i1 s fun i r => sx_a1 r fun a r => bif Nat.blt a 8 then none else sx_al bs ly sp 2 0 pc lv r t a i
  | .saload => some fun bs ly rc ib sp lk nL d pc lv s t => sx_i1 s fun i r => sx_a1 r fun a r => bif Nat.blt a 8 then none else sx_al bs ly sp 3 0 pc lv r t a i
  | .laload => some fun bs ly rc ib sp lk nL d pc lv s t => sx_i1 s fun i r => sx_a1 r fun a r => bif Nat.blt a 8 then none else sx_al bs ly sp 1 1 pc lv r t a i
  | .aaload => some fun bs ly rc ib sp lk nL d pc lv s t => sx_i1 s fun i r => sx_a1 r fun a r => bif Nat.blt a 8 then none else match sx_arr ly a 4 with
    | some h => bif sx_ix t i h.2.2.1 then (match sx_spl t i with
      | some l => sx_all (l.map fun q => match sx_nth h.2.2.2.2 q.1.toNat with
        | some f => some (pc + 1, lv, (2, 0, Int.ofNat f.2.2) :: r, q.2)
        | none => none)
      | none => none) else none
    | none => none
  | .iastore => some fun bs ly rc ib sp lk nL d pc lv s t => sx_i1 s fun x r => sx_i1 r fun i r => sx_a1 r fun a r => bif Nat.blt a 8 then none else sx_as bs ly 0 pc lv r t a i x
  | .bastore => some fun bs ly rc ib sp lk nL d pc lv s t => sx_i1 s fun x r => sx_i1 r fun i r => sx_a1 r fun a r => bif Nat.blt a 8 then none else sx_as bs ly 2 pc lv r (sx_cv 65 (.negSucc 127, 127) (fun c => (Int32.ofInt c).toInt8.toInt) t x).2 a i (sx_cv 65 (.negSucc 127, 127) (fun c => (Int32.ofInt c).toInt8.toInt) t x).1
  | .sastore => some fun bs ly rc ib sp lk nL d pc lv s t => sx_i1 s fun x r => sx_i1 r fun i r => sx_a1 r fun a r => bif Nat.blt a 8 then none else sx_as bs ly 3 pc lv r (sx_cv 66 (.negSucc 32767, 32767) (fun c => (Int32.ofInt c).toInt16.toInt) t x).2 a i (sx_cv 66 (.negSucc 32767, 32767) (fun c => (Int32.ofInt c).toInt16.toInt) t x).1
  | .lastore => some fun bs ly rc ib sp lk nL d pc lv s t => sx_l1 s fun x r => sx_i1 r fun i r => sx_a1 r fun a r => bif Nat.blt a 8 then none else sx_as bs ly 1 pc lv r t a i x
  | .arraylength => some fun bs ly rc ib sp lk nL d pc lv s t => sx_a1 s fun a r => bif Nat.beq a 0 then sx_go (pc + 1) lv ((0, sx_n t (7, 0)) :: r) t else none
  | .invokespecial ix => some fun bs ly rc ib sp lk nL d pc lv s t => match lk ix with
    | some (4, _, _, _) => sx_a1 s fun _ r => bif sx_bi d r then sx_go (pc + 3) lv r t else none
    | _ => none
  | .invokestatic ix => some fun bs ly rc ib sp lk nL d pc lv s t => match lk ix with
    | some (9, _, _, _) => sx_i1 s fun y r => sx_i1 r fun x r => bif sx_bi d r then some ((sx_clt t x y).map fun q => (pc + 3, lv, (0, bif q.1 then y else x) :: r, q.2)) else none
    | some (10, _, _, _) => sx_i1 s fun y r => sx_i1 r fun x r => bif sx_bi d r then some ((sx_clt t y x).map fun q => (pc + 3, lv, (0, bif q.1 then y else x) :: r, q.2)) else none
    | some (11, _, _, _) => sx_i1 s fun x r => bif sx_bi d r then some ((sx_clt t x (0, 0)).map fun q => (pc + 3, lv, (0, (sx_abs q.2 x q.1).1) :: r, (sx_abs q.2 x q.1).2)) else none
    | some (12, _, _, _) => sx_i1 s fun n r => sx_i1 r fun dp r => sx_a1 r fun a r => sx_i1 r fun q r => sx_a1 r fun a0 r => bif sx_an (sx_bi d r) (sx_an (Nat.ble 8 a0) (Nat.ble 8 a)) then (match sx_cp bs ly 0 pc lv r t a0 a q dp n with
      | some o => some o
      | none => sx_cp bs ly 1 pc lv r t a0 a q dp n) else none
    | _ => none
  | _ => none
noncomputable def sx_step (bs : Nat → Int → Option Int) (ly : Nat → Option sx_H) (rc : List (List Int)) (ib : sx_A) (sp : Bool) (lk : Nat → Option sm_L) (nL d : Nat) (ins : Instr) (pc : Nat) (lv : sx_L) (s : List sx_V) (t : sx_S) : Option (List sx_O) := match sx_hd ins with
  | some h => h bs ly rc ib sp lk nL d pc lv s t
  | none => none
abbrev sx_R : Type := Option sx_V × sx_S
noncomputable def sx_rt (ins : Instr) : Option (Nat → List sx_V → sx_S → Option (Option sx_V)) := match ins with
  | .ireturn => some fun kind s t => match s with
    | [v] => bif sx_an (Nat.beq v.1 0) (bif Nat.beq kind 1 then true else sx_an (Nat.beq kind 3) (sx_in (sx_iv t v.2) (0, 1))) then some (some v) else none
    | _ => none
  | .lreturn => some fun kind s _ => match s with
    | [v] => bif sx_an (Nat.beq v.1 1) (Nat.beq kind 2) then some (some v) else none
    | _ => none
  | .return_ => some fun kind s _ => match s with
    | [] => bif Nat.beq kind 0 then some none else none
    | _ => none
  | _ => none
noncomputable def sx_rcv (as : List sx_V) (s : List sx_V) (k : Nat) (ok : Nat → Bool) : Option (Nat × List sx_V × List sx_V) := match s with
  | v :: rest => bif sx_an (Nat.beq v.1 2) (ok v.2.2.toNat) then some (k, v :: as, rest) else none
  | [] => none
noncomputable def sx_ca (ins : Instr) : Option ((Nat → Option sx_H) → (Nat → Option sm_L) → (Nat → Nat) → List sx_V → Option (Nat × List sx_V × List sx_V)) := match ins with
  | .invokevirtual ix => some fun ly lk MA s => match lk ix with
    | some (1, k, ci, _) => sx_rcv (s.take (MA k)).reverse (s.drop (MA k)) k fun a => match ly a with
      | some h => sx_an (Nat.beq h.1 1) (Nat.beq h.2.1 ci)
      | none => false
    | _ => none
  | .invokestatic ix => some fun _ lk MA s => match lk ix with
    | some (2, k, _, _) => bif Nat.ble (MA k) s.length then some (k, (s.take (MA k)).reverse, s.drop (MA k)) else none
    | some (15, k, _, _) => bif Nat.ble (MA k) s.length then some (k, (s.take (MA k)).reverse, s.drop (MA k)) else none
    | _ => none
  | _ => none
noncomputable def sx_call (ly : Nat → Option sx_H) (lk : Nat → Option sm_L) (MA : Nat → Nat) (ins : Instr) (s : List sx_V) : Option (Nat × List sx_V × List sx_V) := match sx_ca ins with
  | some h => h ly lk MA s
  | none => none
def sx_args : Nat → List sx_V → sx_L
  | _, [] => []
  | i, v :: r => (i, v) :: sx_args (i + (bif Nat.beq v.1 1 then 2 else 1)) r
noncomputable def sx_cat {α β : Type} (g : α → Option (List β)) (l : List α) : Option (List β) := l.rec (some []) (fun a _ ih => match g a with
  | some u => (match ih with
    | some w => some (u ++ w)
    | none => none)
  | none => none)
-- two ways that come to the same become one
def sx_ebA (a b : List (sx_A × sx_A)) : Bool := match a, b with
  | [], [] => true
  | x :: a, y :: b => sx_an (sx_ae x.1 y.1) (sx_an (sx_ae x.2 y.2) (sx_ebA a b))
  | _, _ => false
noncomputable def sx_ebT (n : Nat) : sx_T n → sx_T n → Bool := n.rec (motive := fun n => sx_T n → sx_T n → Bool) (fun a b => sx_an (Nat.beq a.1 b.1) (sx_ebA a.2 b.2)) (fun _ ih a b => sx_an (ih a.1 b.1) (ih a.2 b.2))
def sx_ebV (a b : Option sx_V) : Bool := match a, b with
  | none, none => true
  | some x, some y => sx_an (Nat.beq x.1 y.1) (sx_ae x.2 y.2)
  | _, _ => false
noncomputable def sx_same (a b : sx_R) : Bool := sx_an (sx_ebV a.1 b.1) (sx_an (Nat.beq a.2.1 b.2.1) (sx_ebT 7 a.2.2.2.2 b.2.2.2.2))
def sx_pe (p q : Int × Int) : Bool := sx_an (sx_eq p.1 q.1) (sx_eq p.2 q.2)
def sx_adj (p q : Int × Int) : Bool := sx_an (sx_le p.1 (q.2 + 1)) (sx_le q.1 (p.2 + 1))
/-- how many of the first n symbols differ; all that differ must touch -/
noncomputable def sx_dif (t u : sx_S) (n : Nat) : Nat := n.rec 0 (fun k ih => bif sx_pe (sx_si t k) (sx_si u k) then ih else bif sx_adj (sx_si t k) (sx_si u k) then ih + 1 else ih + 2)
noncomputable def sx_hull (t u : sx_S) (n : Nat) : List (Nat × Int × Int) := n.rec [] (fun k ih => (k, sx_mn (sx_si t k).1 (sx_si u k).1, sx_mx (sx_si t k).2 (sx_si u k).2) :: ih)
noncomputable def sx_ins (n : Nat) (o : sx_R) (l : List sx_R) : List sx_R := l.rec [o] (fun p r ih => bif sx_an (sx_same p o) (Nat.ble (sx_dif p.2 o.2 n) 1) then (p.1, p.2.1, sx_hull p.2 o.2 n, ([], []), p.2.2.2.2) :: r else p :: ih)
noncomputable def sx_join (n : Nat) (l : List sx_R) : List sx_R := l.rec [] (fun o _ ih => sx_ins n o ih)
-- worked out at once (the kernel puts off what it isn't asked for): each answers k of what it is given
noncomputable def sx_fN {α : Type} (n : Nat) (k : Nat → α) : α := n.rec (motive := fun _ => α) (k 0) (fun m _ => k (Nat.succ m))
noncomputable def sx_run (bs : Nat → Int → Option Int) (ly : Nat → Option sx_H) (rc : List (List Int)) (ib : sx_A) (sp : Bool) (MT : Nat → sm_M) (LK : Nat → Nat → Option sm_L) (dd : Nat → Bool) (hk : Nat → Nat → List sx_V → sx_S → Option (List sx_R)) (f : Nat) : Nat → Nat → Nat → sx_L → List sx_V → sx_S → Option (List sx_R) := f.rec (fun _ _ _ _ _ _ => none) (fun _ ih d j pc lv s t => match (MT j).2.2.2.2.2 pc with
  | none => none
  | some (ins, len) => bif Nat.beq len (sm_len ins len) then (match sx_rt ins with
    | some g => (match g (MT j).2.2.1 s t with
      | some r => some [(r, t)]
      | none => none)
    | none => match sx_call ly (LK (MT j).1) (fun k => (MT k).2.2.2.1) ins s with
      | some (k, as, rest) => bif Nat.beq d 0 then none else bif sx_an (Nat.ble (sx_sum rest) 8) (Nat.ble (sx_sum as) (MT k).2.1) then (match (match hk (d - 1) k as t with
          | some os => some os
          | none => ih (d - 1) k 0 (sx_args 0 as) [] t) with
        | some os => sx_cat (fun o => sx_fN (pc + 3) fun pc => ih d j pc lv (o.1.toList ++ rest) o.2) (bif dd k then sx_join t.1 os else os)
        | none => none) else none
      | none => match sx_step bs ly rc ib sp (LK (MT j).1) (MT j).2.1 d ins pc lv s t with
        | some l => sx_cat (fun o => sx_fN o.1 fun pc => ih d j pc o.2.1 o.2.2.1 o.2.2.2) l
        | none => none) else none)
