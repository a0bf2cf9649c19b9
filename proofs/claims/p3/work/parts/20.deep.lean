/-! the deep layer: instructions as rows of numbers (pc, what, z, a, b, c); wp1: what one asks of a state and where it leads; so1: that MW follows -/
abbrev MI : Type := Nat × Nat × Int × Nat × Nat × Nat
abbrev MP : Type := List MI × List (Int × List Nat)
abbrev MCt : Type := Nat → List (Nat × MV) → List MV → MH → Prop
def pcA (P : MP) (i : Nat) : Nat := match P.1[i]? with
  | some q => q.1
  | none => 0
def wrI (z : Int) : Int := z.bmod 4294967296
def wrL (z : Int) : Int := z.bmod 18446744073709551616
theorem wrI_id {z : Int} (h : -2147483648 ≤ z ∧ z ≤ 2147483647) : wrI z = z := by
  unfold wrI
  exact Int.bmod_eq_of_le (by omega) (by omega)
theorem wrL_id {z : Int} (h : -9223372036854775808 ≤ z ∧ z ≤ 9223372036854775807) : wrL z = z := by
  unfold wrL
  exact Int.bmod_eq_of_le (by omega) (by omega)
theorem wrI_rng (z : Int) : -2147483648 ≤ wrI z ∧ wrI z ≤ 2147483647 := mI_bm z
theorem wrL_rng (z : Int) : -9223372036854775808 ≤ wrL z ∧ wrL z ≤ 9223372036854775807 := mL_bm z
def cnd (c : Nat) (x y : Int) : Prop := match c with
  | 0 => x = y
  | 1 => x ≠ y
  | 2 => x < y
  | 3 => y ≤ x
  | 4 => y < x
  | _ => x ≤ y
def cmpOf (c : Nat) : Jvm.ClassFile.Cond := match c with
  | 0 => .eq
  | 1 => .ne
  | 2 => .lt
  | 3 => .ge
  | 4 => .gt
  | _ => .le
/-- two numbers of one kind are taken, and one is put -/
def sBin (t : Nat) (f : Int → Int → Int) (S : List MV) (k : List MV → Prop) : Prop := match S with
  | v :: u :: S => u.1 = t ∧ v.1 = t ∧ k ((t, f u.2 v.2) :: S)
  | _ => False
def sSh (f : Int → Int → Int) (S : List MV) (k : List MV → Prop) : Prop := match S with
  | v :: u :: S => u.1 = 1 ∧ v.1 = 0 ∧ k ((1, f u.2 v.2) :: S)
  | _ => False
def sDiv (t : Nat) (lo hi : Int) (f : Int → Int → Int) (S : List MV) (k : List MV → Prop) : Prop := match S with
  | v :: u :: S => u.1 = t ∧ v.1 = t ∧ v.2 ≠ 0 ∧ (lo ≤ f u.2 v.2 ∧ f u.2 v.2 ≤ hi) ∧ k ((t, f u.2 v.2) :: S)
  | _ => False
def sUn (t t' : Nat) (f : Int → Int) (S : List MV) (k : List MV → Prop) : Prop := match S with
  | u :: S => u.1 = t ∧ k ((t', f u.2) :: S)
  | _ => False
/-- a place of an array -/
def sIdx (h : MH) (r i : Int) : Prop := 0 ≤ r ∧ r.toNat < h.1 ∧ 0 ≤ i ∧ i < (h.2 r.toNat).2.1
def sAld (kd tg : Nat) (S : List MV) (h : MH) (k : List MV → Prop) : Prop := match S with
  | i :: r :: S => i.1 = 0 ∧ r.1 = 2 ∧ sIdx h r.2 i.2 ∧ (h.2 r.2.toNat).1 = kd ∧ (mokE kd ((h.2 r.2.toNat).2.2 i.2.toNat) → k ((tg, (h.2 r.2.toNat).2.2 i.2.toNat) :: S))
  | _ => False
def sAst (kd tg : Nat) (S : List MV) (h : MH) (k : List MV → MH → Prop) : Prop := match S with
  | v :: i :: r :: S => v.1 = tg ∧ i.1 = 0 ∧ r.1 = 2 ∧ sIdx h r.2 i.2 ∧ 4 ≤ r.2.toNat ∧ (h.2 r.2.toNat).1 = kd ∧ (kd ≠ 0 → kd ≠ 1 → mokE kd v.2) ∧ k S (hset h r.2.toNat i.2.toNat v.2)
  | _ => False
def sLd (t : Nat) (L : List (Nat × MV)) (a : Nat) (S : List MV) (k : List MV → Prop) : Prop := match mlook L a with
  | some v => v.1 = t ∧ (t = 2 → 0 ≤ v.2) ∧ k (v :: S)
  | none => False
def sMin (t : Nat) (f : Int → Int → Int) (S : List MV) (k : List MV → Prop) : Prop := match S with
  | v :: u :: S => u.1 = t ∧ v.1 = t ∧ (S.map mcat).sum ≤ 8 ∧ k ((t, f u.2 v.2) :: S)
  | _ => False
def sSw2 (q : Option Nat) (lo : Int) (dflt : Nat) (x : Int) (k : Nat → Prop) : Prop := match q with
  | some t => if lo ≤ x then k t else k dflt
  | none => k dflt
def sSw (q : Option (Int × List Nat)) (S : List MV) (k : Nat → List MV → Prop) : Prop := match S, q with
  | u :: S, some (lo, dflt :: ts) => u.1 = 0 ∧ sSw2 ts[(u.2 - lo).toNat]? lo dflt u.2 fun t => k t S
  | _, _ => False
def iMin (x y : Int) : Int := if y < x then y else x
def iMax (x y : Int) : Int := if x < y then y else x
def wp1 (P : MP) (i : Nat) (mi : MI) (L : List (Nat × MV)) (S : List MV) (h : MH) (k : MCt) (Q : MO → MH → Prop) : Prop := match mi.2.1 with
  | 1 => k (i + 1) L ((0, mi.2.2.1) :: S) h
  | 2 => k (i + 1) L ((1, mi.2.2.1) :: S) h
  | 3 => sLd 0 L mi.2.2.2.1 S fun S => k (i + 1) L S h
  | 4 => sLd 1 L mi.2.2.2.1 S fun S => k (i + 1) L S h
  | 5 => sLd 2 L mi.2.2.2.1 S fun S => k (i + 1) L S h
  | 7 => (match S with
    | v :: S => v.1 = 0 ∧ k (i + 1) (mput L mi.2.2.2.1 v) S h
    | _ => False)
  | 8 => (match S with
    | v :: S => v.1 = 1 ∧ k (i + 1) (mput2 L mi.2.2.2.1 v) S h
    | _ => False)
  | 9 => (match S with
    | v :: S => v.1 = 2 ∧ 0 ≤ v.2 ∧ k (i + 1) (mput L mi.2.2.2.1 v) S h
    | _ => False)
  | 11 => (match mlook L mi.2.2.2.1 with
    | some v => v.1 = 0 ∧ k (i + 1) (mput L mi.2.2.2.1 (0, wrI (v.2 + mi.2.2.1))) S h
    | none => False)
  | 12 => sBin 0 (fun x y => wrI (x + y)) S fun S => k (i + 1) L S h
  | 13 => sBin 0 (fun x y => wrI (x - y)) S fun S => k (i + 1) L S h
  | 14 => sBin 0 (fun x y => wrI (x * y)) S fun S => k (i + 1) L S h
  | 16 => sBin 1 (fun x y => wrL (x + y)) S fun S => k (i + 1) L S h
  | 17 => sBin 1 (fun x y => wrL (x - y)) S fun S => k (i + 1) L S h
  | 18 => sBin 1 (fun x y => wrL (x * y)) S fun S => k (i + 1) L S h
  | 24 => sBin 0 (fun x y => (Int32.ofInt x &&& Int32.ofInt y).toInt) S fun S => k (i + 1) L S h
  | 25 => sBin 0 (fun x y => (Int32.ofInt x ||| Int32.ofInt y).toInt) S fun S => k (i + 1) L S h
  | 26 => sBin 0 (fun x y => (Int32.ofInt x ^^^ Int32.ofInt y).toInt) S fun S => k (i + 1) L S h
  | 27 => sBin 1 (fun x y => (Int64.ofInt x &&& Int64.ofInt y).toInt) S fun S => k (i + 1) L S h
  | 28 => sBin 1 (fun x y => (Int64.ofInt x ||| Int64.ofInt y).toInt) S fun S => k (i + 1) L S h
  | 29 => sBin 1 (fun x y => (Int64.ofInt x ^^^ Int64.ofInt y).toInt) S fun S => k (i + 1) L S h
  | 30 => sBin 0 (fun x y => (Int32.ofInt x <<< (Int32.ofInt y &&& 31)).toInt) S fun S => k (i + 1) L S h
  | 31 => sBin 0 (fun x y => (Int32.ofInt x >>> (Int32.ofInt y &&& 31)).toInt) S fun S => k (i + 1) L S h
  | 15 => sUn 0 0 (fun x => wrI (-x)) S fun S => k (i + 1) L S h
  | 19 => sUn 1 1 (fun x => wrL (-x)) S fun S => k (i + 1) L S h
  | 20 => sDiv 0 (-2147483648) 2147483647 (fun x y => x.tdiv y) S fun S => k (i + 1) L S h
  | 21 => sDiv 0 (-2147483648) 2147483647 (fun x y => x.tmod y) S fun S => k (i + 1) L S h
  | 22 => sDiv 1 (-9223372036854775808) 9223372036854775807 (fun x y => x.tdiv y) S fun S => k (i + 1) L S h
  | 23 => sDiv 1 (-9223372036854775808) 9223372036854775807 (fun x y => x.tmod y) S fun S => k (i + 1) L S h
  | 32 => sSh (fun x y => (Int64.ofInt x <<< ((Int32.ofInt y).toInt64 &&& 63)).toInt) S fun S => k (i + 1) L S h
  | 33 => sSh (fun x y => (Int64.ofInt x >>> ((Int32.ofInt y).toInt64 &&& 63)).toInt) S fun S => k (i + 1) L S h
  | 35 => sUn 0 1 (fun x => x) S fun S => k (i + 1) L S h
  | 36 => sUn 1 0 (fun x => wrI x) S fun S => k (i + 1) L S h
  | 37 => sUn 0 0 (fun x => x % 65536) S fun S => k (i + 1) L S h
  | 38 => (match S with
    | u :: S => u.1 = 0 ∧ (-128 ≤ u.2 ∧ u.2 ≤ 127) ∧ k (i + 1) L (u :: S) h
    | _ => False)
  | 39 => (match S with
    | u :: S => mcat u = 1 ∧ k (i + 1) L (u :: u :: S) h
    | _ => False)
  | 40 => (match S with
    | u :: S => mcat u = 1 ∧ k (i + 1) L S h
    | _ => False)
  | 41 => (match S with
    | u :: S => mcat u = 2 ∧ k (i + 1) L S h
    | _ => False)
  | 42 => (match S with
    | v :: w :: S => mcat v = 1 ∧ mcat w = 1 ∧ k (i + 1) L (v :: w :: v :: S) h
    | _ => False)
  | 43 => (match S with
    | v :: w :: u :: S => mcat v = 1 ∧ mcat w = 1 ∧ mcat u = 1 ∧ k (i + 1) L (v :: w :: u :: v :: S) h
    | _ => False)
  | 44 => (match S with
    | v :: w :: S => mcat v = 1 ∧ mcat w = 1 ∧ k (i + 1) L (v :: w :: v :: w :: S) h
    | _ => False)
  | 45 => k mi.2.2.2.1 L S h
  | 46 => (match S with
    | u :: S => u.1 = 0 ∧ (cnd mi.2.2.2.2.1 u.2 0 → k mi.2.2.2.1 L S h) ∧ (¬ cnd mi.2.2.2.2.1 u.2 0 → k (i + 1) L S h)
    | _ => False)
  | 47 => (match S with
    | v :: u :: S => u.1 = 0 ∧ v.1 = 0 ∧ (cnd mi.2.2.2.2.1 u.2 v.2 → k mi.2.2.2.1 L S h) ∧ (¬ cnd mi.2.2.2.2.1 u.2 v.2 → k (i + 1) L S h)
    | _ => False)
  | 48 => (match S with
    | v :: u :: S => u.1 = 1 ∧ v.1 = 1 ∧ (cnd mi.2.2.2.2.1 u.2 v.2 → k mi.2.2.2.1 L S h) ∧ (¬ cnd mi.2.2.2.2.1 u.2 v.2 → k (i + 2) L S h)
    | _ => False)
  | 49 => (match S with
    | r :: S => r.1 = 2 ∧ 0 ≤ r.2 ∧ r.2.toNat < h.1 ∧ (h.2 r.2.toNat).1 = 16 + mi.2.2.2.1 ∧ (mok (tgo mi.2.2.2.2.2, (h.2 r.2.toNat).2.2 mi.2.2.2.2.1) → k (i + 1) L ((tgo mi.2.2.2.2.2, (h.2 r.2.toNat).2.2 mi.2.2.2.2.1) :: S) h)
    | _ => False)
  | 50 => (match S with
    | v :: r :: S => v.1 = tgo mi.2.2.2.2.2 ∧ r.1 = 2 ∧ 0 ≤ r.2 ∧ r.2.toNat < h.1 ∧ (h.2 r.2.toNat).1 = 16 + mi.2.2.2.1 ∧ (mi.2.2.2.2.2 = 4 → 0 ≤ v.2 ∧ v.2 ≤ 1) ∧ k (i + 1) L S (hset h r.2.toNat mi.2.2.2.2.1 v.2)
    | _ => False)
  | 51 => sAld 0 0 S h fun S => k (i + 1) L S h
  | 52 => sAld 1 1 S h fun S => k (i + 1) L S h
  | 53 => (match S with
    | _ :: r :: _ => if (h.2 r.2.toNat).1 = 2 then sAld 2 0 S h (fun S => k (i + 1) L S h) else sAld 3 0 S h (fun S => k (i + 1) L S h)
    | _ => False)
  | 54 => sAld 4 0 S h fun S => k (i + 1) L S h
  | 55 => (match S with
    | i' :: r :: S => i'.1 = 0 ∧ r.1 = 2 ∧ sIdx h r.2 i'.2 ∧ ((h.2 r.2.toNat).1 = 6 ∨ (h.2 r.2.toNat).1 = 7 ∨ (h.2 r.2.toNat).1 = 8) ∧ k (i + 1) L ((2, (h.2 r.2.toNat).2.2 i'.2.toNat) :: S) h
    | _ => False)
  | 56 => sAst 0 0 S h fun S h => k (i + 1) L S h
  | 57 => sAst 1 1 S h fun S h => k (i + 1) L S h
  | 58 => (match S with
    | _ :: _ :: r :: _ => if (h.2 r.2.toNat).1 = 2 then sAst 2 0 S h (fun S h => k (i + 1) L S h) else sAst 3 0 S h (fun S h => k (i + 1) L S h)
    | _ => False)
  | 59 => sAst 4 0 S h fun S h => k (i + 1) L S h
  | 60 => (match S with
    | r :: S => r.1 = 2 ∧ 0 ≤ r.2 ∧ r.2.toNat < h.1 ∧ (h.2 r.2.toNat).1 < 16 ∧ (h.2 r.2.toNat).2.1 ≤ 2147483647 ∧ k (i + 1) L ((0, ((h.2 r.2.toNat).2.1 : Int)) :: S) h
    | _ => False)
  | 61 => (match S with
    | [v] => v.1 = 0 ∧ (mi.2.2.2.1 = 4 → 0 ≤ v.2 ∧ v.2 ≤ 1) ∧ (mi.2.2.2.1 = 5 → 0 ≤ v.2 ∧ v.2 ≤ 65535) ∧ Q (1, v) h
    | _ => False)
  | 62 => (match S with
    | [v] => v.1 = 1 ∧ Q (1, v) h
    | _ => False)
  | 63 => S = [] ∧ Q (0, (0, 0)) h
  | 64 => (match S with
    | [v] => v.1 = 2 ∧ Q (1, v) h
    | _ => False)
  | 65 => sSw P.2[mi.2.2.2.1]? S fun t S => k t L S h
  | 66 => k (i + 1) L ((2, (mi.2.2.2.1 : Int)) :: S) h
  | 69 => sMin 0 iMin S fun S => k (i + 1) L S h
  | 70 => sMin 0 iMax S fun S => k (i + 1) L S h
  | 71 => sMin 1 iMin S fun S => k (i + 1) L S h
  | 72 => sMin 1 iMax S fun S => k (i + 1) L S h
  | _ => False
/-- the instruction at pc is this one, and the next one lies behind it -/
def okD (K : mK) (P : MP) (i pc : Nat) (s : Jvm.ClassFile.Instr) (n : Nat) : Bool := decide (decode K.2.2.1 pc = .ok (s, n)) && Nat.beq (pc + n) (pcA P (i + 1))
theorem okD_of {K : mK} {P : MP} {i pc n : Nat} {s : Jvm.ClassFile.Instr} (h : okD K P i pc s n = true) : decode K.2.2.1 pc = .ok (s, n) ∧ pc + n = pcA P (i + 1) := by
  unfold okD at h
  rw [Bool.and_eq_true] at h
  exact ⟨of_decide_eq_true h.1, Nat.eq_of_beq_eq_true h.2⟩
def okT (K : mK) (pc : Nat) (s : Jvm.ClassFile.Instr) (n : Nat) : Bool := decide (decode K.2.2.1 pc = .ok (s, n))
theorem okT_of {K : mK} {pc n : Nat} {s : Jvm.ClassFile.Instr} (h : okT K pc s n = true) : decode K.2.2.1 pc = .ok (s, n) := of_decide_eq_true h
def offTo (P : MP) (pc t : Nat) : Int := (pcA P t : Int) - (pc : Int)
theorem offTo_at (P : MP) (pc t : Nat) : (pc : Int) + offTo P pc t = (pcA P t : Int) := by
  unfold offTo
  omega
def fin4 (a : Nat) : Fin 4 := ⟨a % 4, Nat.mod_lt _ (by decide)⟩
def fin2 (z : Int) : Fin 2 := ⟨z.toNat % 2, Nat.mod_lt _ (by decide)⟩
def vLd (b a : Nat) (s : Nat → Jvm.ClassFile.Instr) (s4 : Fin 4 → Jvm.ClassFile.Instr) : Jvm.ClassFile.Instr × Nat := if b = 0 then (s a, 2) else (s4 (fin4 a), 1)
def retOk (K : mK) (a : Nat) : Bool := match K.2.2.2.2.1 with
  | some .int => Nat.beq a 0
  | some .boolean => Nat.beq a 4
  | some .char => Nat.beq a 5
  | _ => false
def refRet (K : mK) : Bool := match K.2.2.2.2.1 with
  | some (.object _) => true
  | some (.array _) => true
  | _ => false
def offsOk (P : MP) (pc : Nat) (ts : List Nat) : List Int := ts.map fun t => offTo P pc t
def okSw (K : mK) (P : MP) (pc b : Nat) (q : Option (Int × List Nat)) : Bool := match q with
  | some (lo, dflt :: ts) => okT K pc (.tableswitch (offTo P pc dflt) lo (lo + ts.length - 1) (offsOk P pc ts).toArray) b
  | _ => false
def ok1 (K : mK) (o : Nat) (P : MP) (i : Nat) (mi : MI) : Bool :=
  let pc := mi.1
  let z := mi.2.2.1
  let a := mi.2.2.2.1
  let b := mi.2.2.2.2.1
  let c := mi.2.2.2.2.2
  match mi.2.1 with
  | 1 => (match b with
    | 0 => okD K P i pc (.iconst z) 1 && decide (-2147483648 ≤ z ∧ z ≤ 2147483647)
    | 1 => okD K P i pc (.bipush z) 2 && decide (-128 ≤ z ∧ z ≤ 127)
    | 2 => okD K P i pc (.sipush z) 3 && decide (-32768 ≤ z ∧ z ≤ 32767)
    | _ => okD K P i pc (.ldc a) 2 && (decide (-2147483648 ≤ z ∧ z ≤ 2147483647) && (CI o).contains (a, z)))
  | 2 => (match b with
    | 0 => okD K P i pc (.lconst (fin2 z)) 1 && decide (z = 0 ∨ z = 1)
    | _ => okD K P i pc (.ldc2_w a) 3 && (decide (-9223372036854775808 ≤ z ∧ z ≤ 9223372036854775807) && (CL o).contains (a, z)))
  | 3 => (match b with
    | 0 => okD K P i pc (.iload a) 2
    | _ => okD K P i pc (.iload_n (fin4 a)) 1 && decide (a < 4))
  | 4 => (match b with
    | 0 => okD K P i pc (.lload a) 2
    | _ => okD K P i pc (.lload_n (fin4 a)) 1 && decide (a < 4))
  | 5 => (match b with
    | 0 => okD K P i pc (.aload a) 2
    | _ => okD K P i pc (.aload_n (fin4 a)) 1 && decide (a < 4))
  | 7 => (match b with
    | 0 => okD K P i pc (.istore a) 2 && decide (a < K.2.2.2.1)
    | _ => okD K P i pc (.istore_n (fin4 a)) 1 && decide (a < 4 ∧ a < K.2.2.2.1))
  | 8 => (match b with
    | 0 => okD K P i pc (.lstore a) 2 && decide (a + 1 < K.2.2.2.1)
    | _ => okD K P i pc (.lstore_n (fin4 a)) 1 && decide (a < 4 ∧ a + 1 < K.2.2.2.1))
  | 9 => (match b with
    | 0 => okD K P i pc (.astore a) 2 && decide (a < K.2.2.2.1)
    | _ => okD K P i pc (.astore_n (fin4 a)) 1 && decide (a < 4 ∧ a < K.2.2.2.1))
  | 11 => okD K P i pc (.iinc a z) 3 && decide (a < K.2.2.2.1)
  | 12 => okD K P i pc .iadd 1
  | 13 => okD K P i pc .isub 1
  | 14 => okD K P i pc .imul 1
  | 16 => okD K P i pc .ladd 1
  | 17 => okD K P i pc .lsub 1
  | 18 => okD K P i pc .lmul 1
  | 24 => okD K P i pc .iand 1
  | 25 => okD K P i pc .ior 1
  | 26 => okD K P i pc .ixor 1
  | 27 => okD K P i pc .land 1
  | 28 => okD K P i pc .lor 1
  | 29 => okD K P i pc .lxor 1
  | 30 => okD K P i pc .ishl 1
  | 31 => okD K P i pc .ishr 1
  | 15 => okD K P i pc .ineg 1
  | 19 => okD K P i pc .lneg 1
  | 35 => okD K P i pc .i2l 1
  | 36 => okD K P i pc .l2i 1
  | 37 => okD K P i pc .i2c 1
  | 38 => okD K P i pc .i2b 1
  | 39 => okD K P i pc .dup 1
  | 40 => okD K P i pc .pop 1
  | 41 => okD K P i pc .pop2 1
  | 42 => okD K P i pc .dup_x1 1
  | 43 => okD K P i pc .dup_x2 1
  | 44 => okD K P i pc .dup2 1
  | 51 => okD K P i pc .iaload 1
  | 52 => okD K P i pc .laload 1
  | 53 => okD K P i pc .baload 1
  | 54 => okD K P i pc .caload 1
  | 55 => okD K P i pc .aaload 1
  | 56 => okD K P i pc .iastore 1
  | 57 => okD K P i pc .lastore 1
  | 58 => okD K P i pc .bastore 1
  | 59 => okD K P i pc .castore 1
  | 60 => okD K P i pc .arraylength 1
  | 20 => okD K P i pc .idiv 1
  | 21 => okD K P i pc .irem 1
  | 22 => okD K P i pc .ldiv 1
  | 23 => okD K P i pc .lrem 1
  | 32 => okD K P i pc .lshl 1
  | 33 => okD K P i pc .lshr 1
  | 45 => okT K pc (.goto (offTo P pc a)) 3
  | 46 => okD K P i pc (.ifCond (cmpOf b) (offTo P pc a)) 3 && decide (b < 6)
  | 47 => okD K P i pc (.if_icmp (cmpOf b) (offTo P pc a)) 3 && decide (b < 6)
  | 48 => okT K pc .lcmp 1 && (okT K (pc + 1) (.ifCond (cmpOf b) (offTo P (pc + 1) a)) 3 && (Nat.beq (pc + 4) (pcA P (i + 2)) && decide (b < 6)))
  | 49 => okD K P i pc (.getfield z.toNat) 3 && (decide (c < 5) && (FT o).contains (z.toNat, a, b, c))
  | 50 => okD K P i pc (.putfield z.toNat) 3 && (decide (c < 5) && ((FT o).contains (z.toNat, a, b, c) && (match mcl[a]? with
    | some r => !(r.2.1 b).2.2.2
    | none => false)))
  | 61 => okT K pc .ireturn 1 && retOk K a
  | 62 => okT K pc .lreturn 1 && decide (K.2.2.2.2.1 = some .long)
  | 63 => okT K pc .return_ 1 && decide (K.2.2.2.2.1 = none)
  | 64 => okT K pc .areturn 1 && refRet K
  | 65 => okSw K P pc b P.2[a]?
  | 66 => okD K P i pc (.getstatic z.toNat) 3 && (decide (a < 4 ∧ a ≠ 0) && (ST o).contains (z.toNat, a))
  | 69 => okD K P i pc (.invokestatic z.toNat) 3 && ((MM o).contains (z.toNat, 0) && decide (1 ≤ K.2.2.2.2.2.1 ∧ 21 ≤ K.2.2.2.2.2.2))
  | 70 => okD K P i pc (.invokestatic z.toNat) 3 && ((MM o).contains (z.toNat, 1) && decide (1 ≤ K.2.2.2.2.2.1 ∧ 21 ≤ K.2.2.2.2.2.2))
  | 71 => okD K P i pc (.invokestatic z.toNat) 3 && ((MM o).contains (z.toNat, 2) && decide (1 ≤ K.2.2.2.2.2.1 ∧ 23 ≤ K.2.2.2.2.2.2))
  | 72 => okD K P i pc (.invokestatic z.toNat) 3 && ((MM o).contains (z.toNat, 3) && decide (1 ≤ K.2.2.2.2.2.1 ∧ 23 ≤ K.2.2.2.2.2.2))
  | 67 => okD K P i pc (.invokevirtual z.toNat) 3 && (MT o).contains (z.toNat, a)
  | 68 => okD K P i pc (.invokestatic z.toNat) 3 && (MT o).contains (z.toNat, a)
  | _ => true
def okGo (K : mK) (o : Nat) (P : MP) : Nat → List MI → Bool
  | _, [] => true
  | i, mi :: r => ok1 K o P i mi && okGo K o P (i + 1) r
/-- the rows are the method's -/
def okP (K : mK) (o : Nat) (P : MP) : Bool := okGo K o P 0 P.1 && decide (K.2.1 = mcn o)
theorem okGo_at {K : mK} {o : Nat} {P : MP} : ∀ (l : List MI) (j : Nat), okGo K o P j l = true → ∀ (n : Nat) (mi : MI), l[n]? = some mi → ok1 K o P (j + n) mi = true
  | [], _, _, n, mi, h => by simp at h
  | q :: r, j, ok, 0, mi, h => by
    unfold okGo at ok
    rw [Bool.and_eq_true] at ok
    cases h
    exact ok.1
  | q :: r, j, ok, n + 1, mi, h => by
    unfold okGo at ok
    rw [Bool.and_eq_true] at ok
    have := okGo_at r (j + 1) ok.2 n mi h
    rw [show j + 1 + n = j + (n + 1) by omega] at this
    exact this
theorem okP_at {K : mK} {o : Nat} {P : MP} (ok : okP K o P = true) {i : Nat} {mi : MI} (h : P.1[i]? = some mi) : ok1 K o P i mi = true ∧ K.2.1 = mcn o := by
  unfold okP at ok
  rw [Bool.and_eq_true] at ok
  have := okGo_at P.1 0 ok.1 i mi h
  rw [Nat.zero_add] at this
  exact ⟨this, of_decide_eq_true ok.2⟩
section MO1
variable {K : mK} {o : Nat} {P : MP} {i pc : Nat} {z : Int} {a b c : Nat} {L : List (Nat × MV)} {S : List MV} {h : MH} {Q : MO → MH → Prop} {mc ms : Nat}
/-- where the walk goes on -/
abbrev kMW (K : mK) (Q : MO → MH → Prop) (mc ms : Nat) (P : MP) : MCt := fun i' L' S' h' => MW K Q mc ms (pcA P i') L' S' h'
theorem and2 {x y : Bool} (h : (x && y) = true) : x = true ∧ y = true := by
  rw [Bool.and_eq_true] at h
  exact h
theorem so_1 (hK : K.2.1 = mcn o) (ok : ok1 K o P i (pc, 1, z, a, b, c) = true) (w : wp1 P i (pc, 1, z, a, b, c) L S h (kMW K Q mc ms P) Q) : MW K Q mc ms pc L S h := by
  have w : MW K Q mc ms (pcA P (i + 1)) L ((0, z) :: S) h := w
  match b, ok with
  | 0, ok =>
    have q := and2 ok
    have d := okD_of q.1
    exact m_iconst _ d.1 d.2 (of_decide_eq_true q.2) w
  | 1, ok =>
    have q := and2 ok
    have d := okD_of q.1
    exact m_bipush _ d.1 d.2 (of_decide_eq_true q.2) w
  | 2, ok =>
    have q := and2 ok
    have d := okD_of q.1
    exact m_sipush _ d.1 d.2 (of_decide_eq_true q.2) w
  | n + 3, ok =>
    have q := and2 ok
    have d := okD_of q.1
    have q2 := and2 q.2
    have m := CI_ok o (a, z) (List.contains_iff_mem.mp q2.2)
    rw [← hK] at m
    exact m_ldc _ d.1 d.2 m rfl (of_decide_eq_true q2.1) w
theorem so_2 (hK : K.2.1 = mcn o) (ok : ok1 K o P i (pc, 2, z, a, b, c) = true) (w : wp1 P i (pc, 2, z, a, b, c) L S h (kMW K Q mc ms P) Q) : MW K Q mc ms pc L S h := by
  have w : MW K Q mc ms (pcA P (i + 1)) L ((1, z) :: S) h := w
  match b, ok with
  | 0, ok =>
    have q := and2 ok
    have d := okD_of q.1
    refine m_lconst _ d.1 d.2 ?_
    have e : ((fin2 z : Nat) : Int) = z := by
      unfold fin2
      have q2 : z = 0 ∨ z = 1 := of_decide_eq_true q.2
      rcases q2 with e | e <;> subst e <;> rfl
    rw [e]
    exact w
  | n + 1, ok =>
    have q := and2 ok
    have d := okD_of q.1
    have q2 := and2 q.2
    have m := CL_ok o (a, z) (List.contains_iff_mem.mp q2.2)
    rw [← hK] at m
    exact m_ldc2 _ d.1 d.2 m rfl (of_decide_eq_true q2.1) w
theorem so_3 (hK : K.2.1 = mcn o) (ok : ok1 K o P i (pc, 3, z, a, b, c) = true) (w : wp1 P i (pc, 3, z, a, b, c) L S h (kMW K Q mc ms P) Q) : MW K Q mc ms pc L S h := by
  replace w : sLd 0 L a S (fun S => MW K Q mc ms (pcA P (i + 1)) L S h) := w
  unfold sLd at w
  cases e : mlook L a with
  | none => rw [e] at w; exact w.elim
  | some v =>
    rw [e] at w
    obtain ⟨t, x⟩ := v
    obtain ⟨e1, e2, w⟩ := w
    have e1 : t = 0 := e1
    subst e1
    match b, ok with
    | 0, ok =>
      have d := okD_of ok
      exact m_iload _ d.1 d.2 e w
    | n + 1, ok =>
      have q := and2 ok
      have d := okD_of q.1
      have hj : ((fin4 a : Fin 4) : Nat) = a := Nat.mod_eq_of_lt (of_decide_eq_true q.2)
      exact m_iload_n _ d.1 d.2 (by rw [hj]; exact e) w
theorem so_4 (hK : K.2.1 = mcn o) (ok : ok1 K o P i (pc, 4, z, a, b, c) = true) (w : wp1 P i (pc, 4, z, a, b, c) L S h (kMW K Q mc ms P) Q) : MW K Q mc ms pc L S h := by
  replace w : sLd 1 L a S (fun S => MW K Q mc ms (pcA P (i + 1)) L S h) := w
  unfold sLd at w
  cases e : mlook L a with
  | none => rw [e] at w; exact w.elim
  | some v =>
    rw [e] at w
    obtain ⟨t, x⟩ := v
    obtain ⟨e1, e2, w⟩ := w
    have e1 : t = 1 := e1
    subst e1
    match b, ok with
    | 0, ok =>
      have d := okD_of ok
      exact m_lload _ d.1 d.2 e w
    | n + 1, ok =>
      have q := and2 ok
      have d := okD_of q.1
      have hj : ((fin4 a : Fin 4) : Nat) = a := Nat.mod_eq_of_lt (of_decide_eq_true q.2)
      exact m_lload_n _ d.1 d.2 (by rw [hj]; exact e) w
theorem so_5 (hK : K.2.1 = mcn o) (ok : ok1 K o P i (pc, 5, z, a, b, c) = true) (w : wp1 P i (pc, 5, z, a, b, c) L S h (kMW K Q mc ms P) Q) : MW K Q mc ms pc L S h := by
  replace w : sLd 2 L a S (fun S => MW K Q mc ms (pcA P (i + 1)) L S h) := w
  unfold sLd at w
  cases e : mlook L a with
  | none => rw [e] at w; exact w.elim
  | some v =>
    rw [e] at w
    obtain ⟨t, x⟩ := v
    obtain ⟨e1, e2, w⟩ := w
    have e1 : t = 2 := e1
    subst e1
    match b, ok with
    | 0, ok =>
      have d := okD_of ok
      exact m_aload _ d.1 d.2 e (e2 rfl) w
    | n + 1, ok =>
      have q := and2 ok
      have d := okD_of q.1
      have hj : ((fin4 a : Fin 4) : Nat) = a := Nat.mod_eq_of_lt (of_decide_eq_true q.2)
      exact m_aload_n _ d.1 d.2 (by rw [hj]; exact e) (e2 rfl) w
theorem so_7 (hK : K.2.1 = mcn o) (ok : ok1 K o P i (pc, 7, z, a, b, c) = true) (w : wp1 P i (pc, 7, z, a, b, c) L S h (kMW K Q mc ms P) Q) : MW K Q mc ms pc L S h := by
  match S, w with
  | v :: S, w =>
    obtain ⟨t, x⟩ := v
    obtain ⟨e1, w⟩ := w
    have e1 : t = 0 := e1
    subst e1
    match b, ok with
    | 0, ok =>
      have q := and2 ok
      have d := okD_of q.1
      exact m_istore _ d.1 d.2 (of_decide_eq_true q.2) w
    | n + 1, ok =>
      have q := and2 ok
      have d := okD_of q.1
      have q2 := of_decide_eq_true q.2
      exact m_istore_n _ (Nat.mod_eq_of_lt q2.1) d.1 d.2 q2.2 w
theorem so_8 (hK : K.2.1 = mcn o) (ok : ok1 K o P i (pc, 8, z, a, b, c) = true) (w : wp1 P i (pc, 8, z, a, b, c) L S h (kMW K Q mc ms P) Q) : MW K Q mc ms pc L S h := by
  match S, w with
  | v :: S, w =>
    obtain ⟨t, x⟩ := v
    obtain ⟨e1, w⟩ := w
    have e1 : t = 1 := e1
    subst e1
    match b, ok with
    | 0, ok =>
      have q := and2 ok
      have d := okD_of q.1
      exact m_lstore _ d.1 d.2 (of_decide_eq_true q.2) w
    | n + 1, ok =>
      have q := and2 ok
      have d := okD_of q.1
      have q2 := of_decide_eq_true q.2
      exact m_lstore_n _ (Nat.mod_eq_of_lt q2.1) d.1 d.2 q2.2 w
theorem so_9 (hK : K.2.1 = mcn o) (ok : ok1 K o P i (pc, 9, z, a, b, c) = true) (w : wp1 P i (pc, 9, z, a, b, c) L S h (kMW K Q mc ms P) Q) : MW K Q mc ms pc L S h := by
  match S, w with
  | v :: S, w =>
    obtain ⟨t, x⟩ := v
    obtain ⟨e1, w⟩ := w
    have e1 : t = 2 := e1
    subst e1
    match b, ok with
    | 0, ok =>
      have q := and2 ok
      have d := okD_of q.1
      exact m_astore _ d.1 d.2 (of_decide_eq_true q.2) w.1 w.2
    | n + 1, ok =>
      have q := and2 ok
      have d := okD_of q.1
      have q2 := of_decide_eq_true q.2
      exact m_astore_n _ (Nat.mod_eq_of_lt q2.1) d.1 d.2 q2.2 w.1 w.2
theorem so_11 (hK : K.2.1 = mcn o) (ok : ok1 K o P i (pc, 11, z, a, b, c) = true) (w : wp1 P i (pc, 11, z, a, b, c) L S h (kMW K Q mc ms P) Q) : MW K Q mc ms pc L S h := by
  have q := and2 ok
  have d := okD_of q.1
  replace w : (match mlook L a with
      | some v => v.1 = 0 ∧ MW K Q mc ms (pcA P (i + 1)) (mput L a (0, wrI (v.2 + z))) S h
      | none => False) := w
  cases e : mlook L a with
  | none => rw [e] at w; exact w.elim
  | some v =>
    rw [e] at w
    obtain ⟨t, x⟩ := v
    obtain ⟨e1, w⟩ := w
    have e1 : t = 0 := e1
    subst e1
    exact m_iincW _ d.1 d.2 (of_decide_eq_true q.2) e w
theorem so_12 (hK : K.2.1 = mcn o) (ok : ok1 K o P i (pc, 12, z, a, b, c) = true) (w : wp1 P i (pc, 12, z, a, b, c) L S h (kMW K Q mc ms P) Q) : MW K Q mc ms pc L S h := by
  have d := okD_of ok
  match S, w with
  | v :: u :: S, w =>
    obtain ⟨tv, y⟩ := v
    obtain ⟨tu, x⟩ := u
    obtain ⟨e1, e2, w⟩ := w
    have e1 : tu = 0 := e1
    have e2 : tv = 0 := e2
    subst e1 e2
    exact m_iaddW _ d.1 d.2 w
theorem so_13 (hK : K.2.1 = mcn o) (ok : ok1 K o P i (pc, 13, z, a, b, c) = true) (w : wp1 P i (pc, 13, z, a, b, c) L S h (kMW K Q mc ms P) Q) : MW K Q mc ms pc L S h := by
  have d := okD_of ok
  match S, w with
  | v :: u :: S, w =>
    obtain ⟨tv, y⟩ := v
    obtain ⟨tu, x⟩ := u
    obtain ⟨e1, e2, w⟩ := w
    have e1 : tu = 0 := e1
    have e2 : tv = 0 := e2
    subst e1 e2
    exact m_isubW _ d.1 d.2 w
theorem so_14 (hK : K.2.1 = mcn o) (ok : ok1 K o P i (pc, 14, z, a, b, c) = true) (w : wp1 P i (pc, 14, z, a, b, c) L S h (kMW K Q mc ms P) Q) : MW K Q mc ms pc L S h := by
  have d := okD_of ok
  match S, w with
  | v :: u :: S, w =>
    obtain ⟨tv, y⟩ := v
    obtain ⟨tu, x⟩ := u
    obtain ⟨e1, e2, w⟩ := w
    have e1 : tu = 0 := e1
    have e2 : tv = 0 := e2
    subst e1 e2
    exact m_imulW _ d.1 d.2 w
theorem so_16 (hK : K.2.1 = mcn o) (ok : ok1 K o P i (pc, 16, z, a, b, c) = true) (w : wp1 P i (pc, 16, z, a, b, c) L S h (kMW K Q mc ms P) Q) : MW K Q mc ms pc L S h := by
  have d := okD_of ok
  match S, w with
  | v :: u :: S, w =>
    obtain ⟨tv, y⟩ := v
    obtain ⟨tu, x⟩ := u
    obtain ⟨e1, e2, w⟩ := w
    have e1 : tu = 1 := e1
    have e2 : tv = 1 := e2
    subst e1 e2
    exact m_laddW _ d.1 d.2 w
theorem so_17 (hK : K.2.1 = mcn o) (ok : ok1 K o P i (pc, 17, z, a, b, c) = true) (w : wp1 P i (pc, 17, z, a, b, c) L S h (kMW K Q mc ms P) Q) : MW K Q mc ms pc L S h := by
  have d := okD_of ok
  match S, w with
  | v :: u :: S, w =>
    obtain ⟨tv, y⟩ := v
    obtain ⟨tu, x⟩ := u
    obtain ⟨e1, e2, w⟩ := w
    have e1 : tu = 1 := e1
    have e2 : tv = 1 := e2
    subst e1 e2
    exact m_lsubW _ d.1 d.2 w
theorem so_18 (hK : K.2.1 = mcn o) (ok : ok1 K o P i (pc, 18, z, a, b, c) = true) (w : wp1 P i (pc, 18, z, a, b, c) L S h (kMW K Q mc ms P) Q) : MW K Q mc ms pc L S h := by
  have d := okD_of ok
  match S, w with
  | v :: u :: S, w =>
    obtain ⟨tv, y⟩ := v
    obtain ⟨tu, x⟩ := u
    obtain ⟨e1, e2, w⟩ := w
    have e1 : tu = 1 := e1
    have e2 : tv = 1 := e2
    subst e1 e2
    exact m_lmulW _ d.1 d.2 w
theorem so_24 (hK : K.2.1 = mcn o) (ok : ok1 K o P i (pc, 24, z, a, b, c) = true) (w : wp1 P i (pc, 24, z, a, b, c) L S h (kMW K Q mc ms P) Q) : MW K Q mc ms pc L S h := by
  have d := okD_of ok
  match S, w with
  | v :: u :: S, w =>
    obtain ⟨tv, y⟩ := v
    obtain ⟨tu, x⟩ := u
    obtain ⟨e1, e2, w⟩ := w
    have e1 : tu = 0 := e1
    have e2 : tv = 0 := e2
    subst e1 e2
    exact m_iand _ d.1 d.2 w
theorem so_25 (hK : K.2.1 = mcn o) (ok : ok1 K o P i (pc, 25, z, a, b, c) = true) (w : wp1 P i (pc, 25, z, a, b, c) L S h (kMW K Q mc ms P) Q) : MW K Q mc ms pc L S h := by
  have d := okD_of ok
  match S, w with
  | v :: u :: S, w =>
    obtain ⟨tv, y⟩ := v
    obtain ⟨tu, x⟩ := u
    obtain ⟨e1, e2, w⟩ := w
    have e1 : tu = 0 := e1
    have e2 : tv = 0 := e2
    subst e1 e2
    exact m_ior _ d.1 d.2 w
theorem so_26 (hK : K.2.1 = mcn o) (ok : ok1 K o P i (pc, 26, z, a, b, c) = true) (w : wp1 P i (pc, 26, z, a, b, c) L S h (kMW K Q mc ms P) Q) : MW K Q mc ms pc L S h := by
  have d := okD_of ok
  match S, w with
  | v :: u :: S, w =>
    obtain ⟨tv, y⟩ := v
    obtain ⟨tu, x⟩ := u
    obtain ⟨e1, e2, w⟩ := w
    have e1 : tu = 0 := e1
    have e2 : tv = 0 := e2
    subst e1 e2
    exact m_ixor _ d.1 d.2 w
theorem so_27 (hK : K.2.1 = mcn o) (ok : ok1 K o P i (pc, 27, z, a, b, c) = true) (w : wp1 P i (pc, 27, z, a, b, c) L S h (kMW K Q mc ms P) Q) : MW K Q mc ms pc L S h := by
  have d := okD_of ok
  match S, w with
  | v :: u :: S, w =>
    obtain ⟨tv, y⟩ := v
    obtain ⟨tu, x⟩ := u
    obtain ⟨e1, e2, w⟩ := w
    have e1 : tu = 1 := e1
    have e2 : tv = 1 := e2
    subst e1 e2
    exact m_land _ d.1 d.2 w
theorem so_28 (hK : K.2.1 = mcn o) (ok : ok1 K o P i (pc, 28, z, a, b, c) = true) (w : wp1 P i (pc, 28, z, a, b, c) L S h (kMW K Q mc ms P) Q) : MW K Q mc ms pc L S h := by
  have d := okD_of ok
  match S, w with
  | v :: u :: S, w =>
    obtain ⟨tv, y⟩ := v
    obtain ⟨tu, x⟩ := u
    obtain ⟨e1, e2, w⟩ := w
    have e1 : tu = 1 := e1
    have e2 : tv = 1 := e2
    subst e1 e2
    exact m_lor _ d.1 d.2 w
theorem so_29 (hK : K.2.1 = mcn o) (ok : ok1 K o P i (pc, 29, z, a, b, c) = true) (w : wp1 P i (pc, 29, z, a, b, c) L S h (kMW K Q mc ms P) Q) : MW K Q mc ms pc L S h := by
  have d := okD_of ok
  match S, w with
  | v :: u :: S, w =>
    obtain ⟨tv, y⟩ := v
    obtain ⟨tu, x⟩ := u
    obtain ⟨e1, e2, w⟩ := w
    have e1 : tu = 1 := e1
    have e2 : tv = 1 := e2
    subst e1 e2
    exact m_lxor _ d.1 d.2 w
theorem so_30 (hK : K.2.1 = mcn o) (ok : ok1 K o P i (pc, 30, z, a, b, c) = true) (w : wp1 P i (pc, 30, z, a, b, c) L S h (kMW K Q mc ms P) Q) : MW K Q mc ms pc L S h := by
  have d := okD_of ok
  match S, w with
  | v :: u :: S, w =>
    obtain ⟨tv, y⟩ := v
    obtain ⟨tu, x⟩ := u
    obtain ⟨e1, e2, w⟩ := w
    have e1 : tu = 0 := e1
    have e2 : tv = 0 := e2
    subst e1 e2
    exact m_ishl _ d.1 d.2 w
theorem so_31 (hK : K.2.1 = mcn o) (ok : ok1 K o P i (pc, 31, z, a, b, c) = true) (w : wp1 P i (pc, 31, z, a, b, c) L S h (kMW K Q mc ms P) Q) : MW K Q mc ms pc L S h := by
  have d := okD_of ok
  match S, w with
  | v :: u :: S, w =>
    obtain ⟨tv, y⟩ := v
    obtain ⟨tu, x⟩ := u
    obtain ⟨e1, e2, w⟩ := w
    have e1 : tu = 0 := e1
    have e2 : tv = 0 := e2
    subst e1 e2
    exact m_ishr _ d.1 d.2 w
theorem so_32 (hK : K.2.1 = mcn o) (ok : ok1 K o P i (pc, 32, z, a, b, c) = true) (w : wp1 P i (pc, 32, z, a, b, c) L S h (kMW K Q mc ms P) Q) : MW K Q mc ms pc L S h := by
  have d := okD_of ok
  match S, w with
  | v :: u :: S, w =>
    obtain ⟨tv, y⟩ := v
    obtain ⟨tu, x⟩ := u
    obtain ⟨e1, e2, w⟩ := w
    have e1 : tu = 1 := e1
    have e2 : tv = 0 := e2
    subst e1 e2
    exact m_lshl _ d.1 d.2 w
theorem so_33 (hK : K.2.1 = mcn o) (ok : ok1 K o P i (pc, 33, z, a, b, c) = true) (w : wp1 P i (pc, 33, z, a, b, c) L S h (kMW K Q mc ms P) Q) : MW K Q mc ms pc L S h := by
  have d := okD_of ok
  match S, w with
  | v :: u :: S, w =>
    obtain ⟨tv, y⟩ := v
    obtain ⟨tu, x⟩ := u
    obtain ⟨e1, e2, w⟩ := w
    have e1 : tu = 1 := e1
    have e2 : tv = 0 := e2
    subst e1 e2
    exact m_lshr _ d.1 d.2 w
theorem so_20 (hK : K.2.1 = mcn o) (ok : ok1 K o P i (pc, 20, z, a, b, c) = true) (w : wp1 P i (pc, 20, z, a, b, c) L S h (kMW K Q mc ms P) Q) : MW K Q mc ms pc L S h := by
  have d := okD_of ok
  match S, w with
  | v :: u :: S, w =>
    obtain ⟨tv, y⟩ := v
    obtain ⟨tu, x⟩ := u
    obtain ⟨e1, e2, e3, e4, w⟩ := w
    have e1 : tu = 0 := e1
    have e2 : tv = 0 := e2
    subst e1 e2
    exact m_idiv _ d.1 d.2 e3 e4 w
theorem so_21 (hK : K.2.1 = mcn o) (ok : ok1 K o P i (pc, 21, z, a, b, c) = true) (w : wp1 P i (pc, 21, z, a, b, c) L S h (kMW K Q mc ms P) Q) : MW K Q mc ms pc L S h := by
  have d := okD_of ok
  match S, w with
  | v :: u :: S, w =>
    obtain ⟨tv, y⟩ := v
    obtain ⟨tu, x⟩ := u
    obtain ⟨e1, e2, e3, e4, w⟩ := w
    have e1 : tu = 0 := e1
    have e2 : tv = 0 := e2
    subst e1 e2
    exact m_irem _ d.1 d.2 e3 w
theorem so_22 (hK : K.2.1 = mcn o) (ok : ok1 K o P i (pc, 22, z, a, b, c) = true) (w : wp1 P i (pc, 22, z, a, b, c) L S h (kMW K Q mc ms P) Q) : MW K Q mc ms pc L S h := by
  have d := okD_of ok
  match S, w with
  | v :: u :: S, w =>
    obtain ⟨tv, y⟩ := v
    obtain ⟨tu, x⟩ := u
    obtain ⟨e1, e2, e3, e4, w⟩ := w
    have e1 : tu = 1 := e1
    have e2 : tv = 1 := e2
    subst e1 e2
    exact m_ldiv _ d.1 d.2 e3 e4 w
theorem so_23 (hK : K.2.1 = mcn o) (ok : ok1 K o P i (pc, 23, z, a, b, c) = true) (w : wp1 P i (pc, 23, z, a, b, c) L S h (kMW K Q mc ms P) Q) : MW K Q mc ms pc L S h := by
  have d := okD_of ok
  match S, w with
  | v :: u :: S, w =>
    obtain ⟨tv, y⟩ := v
    obtain ⟨tu, x⟩ := u
    obtain ⟨e1, e2, e3, e4, w⟩ := w
    have e1 : tu = 1 := e1
    have e2 : tv = 1 := e2
    subst e1 e2
    exact m_lrem _ d.1 d.2 e3 w
theorem so_15 (hK : K.2.1 = mcn o) (ok : ok1 K o P i (pc, 15, z, a, b, c) = true) (w : wp1 P i (pc, 15, z, a, b, c) L S h (kMW K Q mc ms P) Q) : MW K Q mc ms pc L S h := by
  have d := okD_of ok
  match S, w with
  | u :: S, w =>
    obtain ⟨tu, x⟩ := u
    obtain ⟨e1, w⟩ := w
    have e1 : tu = 0 := e1
    subst e1
    exact m_inegW _ d.1 d.2 w
theorem so_19 (hK : K.2.1 = mcn o) (ok : ok1 K o P i (pc, 19, z, a, b, c) = true) (w : wp1 P i (pc, 19, z, a, b, c) L S h (kMW K Q mc ms P) Q) : MW K Q mc ms pc L S h := by
  have d := okD_of ok
  match S, w with
  | u :: S, w =>
    obtain ⟨tu, x⟩ := u
    obtain ⟨e1, w⟩ := w
    have e1 : tu = 1 := e1
    subst e1
    exact m_lnegW _ d.1 d.2 w
theorem so_35 (hK : K.2.1 = mcn o) (ok : ok1 K o P i (pc, 35, z, a, b, c) = true) (w : wp1 P i (pc, 35, z, a, b, c) L S h (kMW K Q mc ms P) Q) : MW K Q mc ms pc L S h := by
  have d := okD_of ok
  match S, w with
  | u :: S, w =>
    obtain ⟨tu, x⟩ := u
    obtain ⟨e1, w⟩ := w
    have e1 : tu = 0 := e1
    subst e1
    exact m_i2l _ d.1 d.2 w
theorem so_36 (hK : K.2.1 = mcn o) (ok : ok1 K o P i (pc, 36, z, a, b, c) = true) (w : wp1 P i (pc, 36, z, a, b, c) L S h (kMW K Q mc ms P) Q) : MW K Q mc ms pc L S h := by
  have d := okD_of ok
  match S, w with
  | u :: S, w =>
    obtain ⟨tu, x⟩ := u
    obtain ⟨e1, w⟩ := w
    have e1 : tu = 1 := e1
    subst e1
    exact m_l2iW _ d.1 d.2 w
theorem so_37 (hK : K.2.1 = mcn o) (ok : ok1 K o P i (pc, 37, z, a, b, c) = true) (w : wp1 P i (pc, 37, z, a, b, c) L S h (kMW K Q mc ms P) Q) : MW K Q mc ms pc L S h := by
  have d := okD_of ok
  match S, w with
  | u :: S, w =>
    obtain ⟨tu, x⟩ := u
    obtain ⟨e1, w⟩ := w
    have e1 : tu = 0 := e1
    subst e1
    exact m_i2cW _ d.1 d.2 w
theorem so_38 (hK : K.2.1 = mcn o) (ok : ok1 K o P i (pc, 38, z, a, b, c) = true) (w : wp1 P i (pc, 38, z, a, b, c) L S h (kMW K Q mc ms P) Q) : MW K Q mc ms pc L S h := by
  have d := okD_of ok
  match S, w with
  | u :: S, w =>
    obtain ⟨tu, x⟩ := u
    obtain ⟨e1, e2, w⟩ := w
    have e1 : tu = 0 := e1
    subst e1
    exact m_i2b _ d.1 d.2 e2.1 e2.2 w
theorem so_39 (hK : K.2.1 = mcn o) (ok : ok1 K o P i (pc, 39, z, a, b, c) = true) (w : wp1 P i (pc, 39, z, a, b, c) L S h (kMW K Q mc ms P) Q) : MW K Q mc ms pc L S h := by
  have d := okD_of ok
  match S, w with
  | u :: S, w => exact m_dup _ d.1 d.2 w.1 w.2
theorem so_40 (hK : K.2.1 = mcn o) (ok : ok1 K o P i (pc, 40, z, a, b, c) = true) (w : wp1 P i (pc, 40, z, a, b, c) L S h (kMW K Q mc ms P) Q) : MW K Q mc ms pc L S h := by
  have d := okD_of ok
  match S, w with
  | u :: S, w => exact m_pop _ d.1 d.2 w.1 w.2
theorem so_41 (hK : K.2.1 = mcn o) (ok : ok1 K o P i (pc, 41, z, a, b, c) = true) (w : wp1 P i (pc, 41, z, a, b, c) L S h (kMW K Q mc ms P) Q) : MW K Q mc ms pc L S h := by
  have d := okD_of ok
  match S, w with
  | u :: S, w => exact m_pop2 _ d.1 d.2 w.1 w.2
theorem so_42 (hK : K.2.1 = mcn o) (ok : ok1 K o P i (pc, 42, z, a, b, c) = true) (w : wp1 P i (pc, 42, z, a, b, c) L S h (kMW K Q mc ms P) Q) : MW K Q mc ms pc L S h := by
  have d := okD_of ok
  match S, w with
  | v :: u :: S, w => exact m_dup_x1 _ d.1 d.2 w.1 w.2.1 w.2.2
theorem so_43 (hK : K.2.1 = mcn o) (ok : ok1 K o P i (pc, 43, z, a, b, c) = true) (w : wp1 P i (pc, 43, z, a, b, c) L S h (kMW K Q mc ms P) Q) : MW K Q mc ms pc L S h := by
  have d := okD_of ok
  match S, w with
  | v :: u :: x :: S, w => exact m_dup_x2 _ d.1 d.2 w.1 w.2.1 w.2.2.1 w.2.2.2
theorem so_44 (hK : K.2.1 = mcn o) (ok : ok1 K o P i (pc, 44, z, a, b, c) = true) (w : wp1 P i (pc, 44, z, a, b, c) L S h (kMW K Q mc ms P) Q) : MW K Q mc ms pc L S h := by
  have d := okD_of ok
  match S, w with
  | v :: u :: S, w => exact m_dup2 _ d.1 d.2 w.1 w.2.1 w.2.2
theorem so_45 (hK : K.2.1 = mcn o) (ok : ok1 K o P i (pc, 45, z, a, b, c) = true) (w : wp1 P i (pc, 45, z, a, b, c) L S h (kMW K Q mc ms P) Q) : MW K Q mc ms pc L S h := by
  exact m_goto _ (okT_of ok) (offTo_at P pc a) w
theorem so_46 (hK : K.2.1 = mcn o) (ok : ok1 K o P i (pc, 46, z, a, b, c) = true) (w : wp1 P i (pc, 46, z, a, b, c) L S h (kMW K Q mc ms P) Q) : MW K Q mc ms pc L S h := by
  have q := and2 ok
  have d := okD_of q.1
  have hb : b < 6 := of_decide_eq_true q.2
  match S, w with
  | u :: S, w =>
    obtain ⟨tu, x⟩ := u
    obtain ⟨e1, w3, w4⟩ := w
    have e1 : tu = 0 := e1
    subst e1
    have hd := d.1
    have w3 : cnd b x 0 → MW K Q mc ms (pcA P a) L S h := w3
    have w4 : ¬ cnd b x 0 → MW K Q mc ms (pcA P (i + 1)) L S h := w4
    match b, hd, w3, w4, hb with
    | 0, hd, w3, w4, _ => exact m_if_eq _ _ hd d.2 (offTo_at P pc a) w3 w4
    | 1, hd, w3, w4, _ => exact m_if_ne _ _ hd d.2 (offTo_at P pc a) w3 (fun e => w4 (fun ne => ne e))
    | 2, hd, w3, w4, _ => exact m_if_lt _ _ hd d.2 (offTo_at P pc a) w3 w4
    | 3, hd, w3, w4, _ => exact m_if_ge _ _ hd d.2 (offTo_at P pc a) w3 w4
    | 4, hd, w3, w4, _ => exact m_if_gt _ _ hd d.2 (offTo_at P pc a) w3 w4
    | 5, hd, w3, w4, _ => exact m_if_le _ _ hd d.2 (offTo_at P pc a) w3 w4
    | n + 6, _, _, _, hb => omega
theorem so_47 (hK : K.2.1 = mcn o) (ok : ok1 K o P i (pc, 47, z, a, b, c) = true) (w : wp1 P i (pc, 47, z, a, b, c) L S h (kMW K Q mc ms P) Q) : MW K Q mc ms pc L S h := by
  have q := and2 ok
  have d := okD_of q.1
  have hb : b < 6 := of_decide_eq_true q.2
  match S, w with
  | v :: u :: S, w =>
    obtain ⟨tu, x⟩ := u
    obtain ⟨tv, y⟩ := v
    obtain ⟨e1, e2, w3, w4⟩ := w
    have e1 : tu = 0 := e1
    subst e1
    have e2 : tv = 0 := e2
    subst e2
    have hd := d.1
    have w3 : cnd b x y → MW K Q mc ms (pcA P a) L S h := w3
    have w4 : ¬ cnd b x y → MW K Q mc ms (pcA P (i + 1)) L S h := w4
    match b, hd, w3, w4, hb with
    | 0, hd, w3, w4, _ => exact m_ic_eq _ _ hd d.2 (offTo_at P pc a) w3 w4
    | 1, hd, w3, w4, _ => exact m_ic_ne _ _ hd d.2 (offTo_at P pc a) w3 (fun e => w4 (fun ne => ne e))
    | 2, hd, w3, w4, _ => exact m_ic_lt _ _ hd d.2 (offTo_at P pc a) w3 w4
    | 3, hd, w3, w4, _ => exact m_ic_ge _ _ hd d.2 (offTo_at P pc a) w3 w4
    | 4, hd, w3, w4, _ => exact m_ic_gt _ _ hd d.2 (offTo_at P pc a) w3 w4
    | 5, hd, w3, w4, _ => exact m_ic_le _ _ hd d.2 (offTo_at P pc a) w3 w4
    | n + 6, _, _, _, hb => omega
theorem so_48 (hK : K.2.1 = mcn o) (ok : ok1 K o P i (pc, 48, z, a, b, c) = true) (w : wp1 P i (pc, 48, z, a, b, c) L S h (kMW K Q mc ms P) Q) : MW K Q mc ms pc L S h := by
  have q := and2 ok
  have q2 := and2 q.2
  have q3 := and2 q2.2
  have d1 := okT_of q.1
  have hd := okT_of q2.1
  have d3 : pc + 4 = pcA P (i + 2) := Nat.eq_of_beq_eq_true q3.1
  have hb : b < 6 := of_decide_eq_true q3.2
  have ht : (pc : Int) + 1 + offTo P (pc + 1) a = (pcA P a : Int) := by
    have := offTo_at P (pc + 1) a
    omega
  match S, w with
  | v :: u :: S, w =>
    obtain ⟨tu, x⟩ := u
    obtain ⟨tv, y⟩ := v
    obtain ⟨e1, e2, w3, w4⟩ := w
    have e1 : tu = 1 := e1
    have e2 : tv = 1 := e2
    subst e1 e2
    have w3 : cnd b x y → MW K Q mc ms (pcA P a) L S h := w3
    have w4 : ¬ cnd b x y → MW K Q mc ms (pcA P (i + 2)) L S h := w4
    match b, hd, w3, w4, hb with
    | 0, hd, w3, w4, _ => exact m_lc_eq _ _ d1 hd d3 ht w3 w4
    | 1, hd, w3, w4, _ => exact m_lc_ne _ _ d1 hd d3 ht w3 (fun e => w4 (fun ne => ne e))
    | 2, hd, w3, w4, _ => exact m_lc_lt _ _ d1 hd d3 ht w3 w4
    | 3, hd, w3, w4, _ => exact m_lc_ge _ _ d1 hd d3 ht w3 w4
    | 4, hd, w3, w4, _ => exact m_lc_gt _ _ d1 hd d3 ht w3 w4
    | 5, hd, w3, w4, _ => exact m_lc_le _ _ d1 hd d3 ht w3 w4
    | n + 6, _, _, _, hb => omega
theorem so_49 (hK : K.2.1 = mcn o) (ok : ok1 K o P i (pc, 49, z, a, b, c) = true) (w : wp1 P i (pc, 49, z, a, b, c) L S h (kMW K Q mc ms P) Q) : MW K Q mc ms pc L S h := by
  have q := and2 ok
  have d := okD_of q.1
  have q2 := and2 q.2
  have f := FT_ok o (z.toNat, a, b, c) (List.contains_iff_mem.mp q2.2)
  have tg : mft a b = tgo c := f.tag (of_decide_eq_true q2.1)
  obtain ⟨r, t, f1, f2, f3, f4, f5⟩ := f
  have f1 : mcl[a]? = some r := f1
  have f2 : b < r.2.2 := f2
  rw [← hK] at f5
  match S, w with
  | v :: S, w =>
    obtain ⟨tv, y⟩ := v
    obtain ⟨e1, e2, e3, e4, w⟩ := w
    have e1 : tv = 2 := e1
    subst e1
    refine m_getfield _ d.1 d.2 (r := y) f1 (mcl_ok r (List.mem_of_getElem? f1)).1 f2 f5 tg e2 e3 e4 (fun v ev hv => ?_)
    subst ev
    exact w hv
theorem so_50 (hK : K.2.1 = mcn o) (ok : ok1 K o P i (pc, 50, z, a, b, c) = true) (w : wp1 P i (pc, 50, z, a, b, c) L S h (kMW K Q mc ms P) Q) : MW K Q mc ms pc L S h := by
  have q := and2 ok
  have d := okD_of q.1
  have q2 := and2 q.2
  have q3 := and2 q2.2
  have f := FT_ok o (z.toNat, a, b, c) (List.contains_iff_mem.mp q3.1)
  have hc5 : c < 5 := of_decide_eq_true q2.1
  have tg : mft a b = tgo c := f.tag hc5
  obtain ⟨r, t, f1, f2, f3, f4, f5⟩ := f
  have f1 : mcl[a]? = some r := f1
  have f2 : b < r.2.2 := f2
  have f3 : parseFieldDescriptor (r.2.1 b).2.2.1 = some t := f3
  have f4 : mfcT t = c := f4
  rw [← hK] at f5
  have hfin : (r.2.1 b).2.2.2 = false := by
    have q4 : (match mcl[a]? with
      | some r => !(r.2.1 b).2.2.2
      | none => false) = true := q3.2
    rw [f1] at q4
    simpa using q4
  obtain ⟨g1, g2, ty0, g3⟩ := mcl_ok r (List.mem_of_getElem? f1)
  have et : ty0 b = t := by
    have := g3 b f2
    rw [f3] at this
    exact (Option.some.inj this).symm
  match S, w with
  | v :: u :: S, w =>
    obtain ⟨tv, x⟩ := v
    obtain ⟨tu, y⟩ := u
    obtain ⟨e1, e2, e3, e4, e5, e6, w⟩ := w
    have e1 : tv = tgo c := e1
    have e2 : tu = 2 := e2
    subst e1 e2
    have hnf : (∀ ad, narrow t (mval ad (tgo c, x)) = mval ad (tgo c, x)) ∧ (∀ ad, fits t (mval ad (tgo c, x)) = true) := by
      have e6 : c = 4 → 0 ≤ x ∧ x ≤ 1 := e6
      clear w g3 et f3 tg ok q q2 q3
      subst f4
      cases t with
      | int => exact ⟨fun ad => rfl, fun ad => rfl⟩
      | long => exact ⟨fun ad => rfl, fun ad => rfl⟩
      | double => exact ⟨fun ad => rfl, fun ad => rfl⟩
      | boolean => exact ⟨m_nz (e6 rfl), m_fz (e6 rfl)⟩
      | object C => exact ⟨m_nrO C, m_frO C⟩
      | array t => exact ⟨m_nrA t, m_frA t⟩
      | _ => exact absurd hc5 (by decide)
    exact m_putfield _ d.1 d.2 (r := y) f1 g1 g3 g2 f2 (Or.inl hfin) f5 tg (by rw [et]; exact hnf.1) (by rw [et]; exact hnf.2) e3 e4 e5 w
theorem so_51 (hK : K.2.1 = mcn o) (ok : ok1 K o P i (pc, 51, z, a, b, c) = true) (w : wp1 P i (pc, 51, z, a, b, c) L S h (kMW K Q mc ms P) Q) : MW K Q mc ms pc L S h := by
  have d := okD_of ok
  match S, w with
  | v :: u :: S, w =>
    obtain ⟨tv, x⟩ := v
    obtain ⟨tu, y⟩ := u
    obtain ⟨e1, e2, e3, e4, w⟩ := w
    have e1 : tv = 0 := e1
    have e2 : tu = 2 := e2
    subst e1 e2
    refine m_iald _ d.1 d.2 (r := y) (i := x) e3.1 e3.2.1 e4 e3.2.2.1 e3.2.2.2 (fun v ev hv => ?_)
    subst ev
    exact w hv
theorem so_52 (hK : K.2.1 = mcn o) (ok : ok1 K o P i (pc, 52, z, a, b, c) = true) (w : wp1 P i (pc, 52, z, a, b, c) L S h (kMW K Q mc ms P) Q) : MW K Q mc ms pc L S h := by
  have d := okD_of ok
  match S, w with
  | v :: u :: S, w =>
    obtain ⟨tv, x⟩ := v
    obtain ⟨tu, y⟩ := u
    obtain ⟨e1, e2, e3, e4, w⟩ := w
    have e1 : tv = 0 := e1
    have e2 : tu = 2 := e2
    subst e1 e2
    refine m_lald _ d.1 d.2 (r := y) (i := x) e3.1 e3.2.1 e4 e3.2.2.1 e3.2.2.2 (fun v ev hv => ?_)
    subst ev
    exact w hv
theorem so_54 (hK : K.2.1 = mcn o) (ok : ok1 K o P i (pc, 54, z, a, b, c) = true) (w : wp1 P i (pc, 54, z, a, b, c) L S h (kMW K Q mc ms P) Q) : MW K Q mc ms pc L S h := by
  have d := okD_of ok
  match S, w with
  | v :: u :: S, w =>
    obtain ⟨tv, x⟩ := v
    obtain ⟨tu, y⟩ := u
    obtain ⟨e1, e2, e3, e4, w⟩ := w
    have e1 : tv = 0 := e1
    have e2 : tu = 2 := e2
    subst e1 e2
    refine m_cald _ d.1 d.2 (r := y) (i := x) e3.1 e3.2.1 e4 e3.2.2.1 e3.2.2.2 (fun v ev hv => ?_)
    subst ev
    exact w hv
theorem so_53 (hK : K.2.1 = mcn o) (ok : ok1 K o P i (pc, 53, z, a, b, c) = true) (w : wp1 P i (pc, 53, z, a, b, c) L S h (kMW K Q mc ms P) Q) : MW K Q mc ms pc L S h := by
  have d := okD_of ok
  match S, w with
  | v :: u :: S, w =>
    have w : (if (h.2 u.2.toNat).1 = 2 then sAld 2 0 (v :: u :: S) h (fun S => MW K Q mc ms (pcA P (i + 1)) L S h) else sAld 3 0 (v :: u :: S) h (fun S => MW K Q mc ms (pcA P (i + 1)) L S h)) := w
    split at w
    · obtain ⟨tv, x⟩ := v
      obtain ⟨tu, y⟩ := u
      obtain ⟨e1, e2, e3, e4, w⟩ := w
      have e1 : tv = 0 := e1
      have e2 : tu = 2 := e2
      subst e1 e2
      refine m_zald _ d.1 d.2 (r := y) (i := x) e3.1 e3.2.1 e4 e3.2.2.1 e3.2.2.2 (fun v ev hv => ?_)
      subst ev
      exact w hv
    · obtain ⟨tv, x⟩ := v
      obtain ⟨tu, y⟩ := u
      obtain ⟨e1, e2, e3, e4, w⟩ := w
      have e1 : tv = 0 := e1
      have e2 : tu = 2 := e2
      subst e1 e2
      refine m_bald _ d.1 d.2 (r := y) (i := x) e3.1 e3.2.1 e4 e3.2.2.1 e3.2.2.2 (fun v ev hv => ?_)
      subst ev
      exact w hv
theorem so_55 (hK : K.2.1 = mcn o) (ok : ok1 K o P i (pc, 55, z, a, b, c) = true) (w : wp1 P i (pc, 55, z, a, b, c) L S h (kMW K Q mc ms P) Q) : MW K Q mc ms pc L S h := by
  have d := okD_of ok
  match S, w with
  | v :: u :: S, w =>
    obtain ⟨tv, x⟩ := v
    obtain ⟨tu, y⟩ := u
    obtain ⟨e1, e2, e3, e4, w⟩ := w
    have e1 : tv = 0 := e1
    have e2 : tu = 2 := e2
    subst e1 e2
    refine m_aald _ d.1 d.2 (r := y) (i := x) e3.1 e3.2.1 e4 e3.2.2.1 e3.2.2.2 (fun v ev => ?_)
    subst ev
    exact w
theorem so_56 (hK : K.2.1 = mcn o) (ok : ok1 K o P i (pc, 56, z, a, b, c) = true) (w : wp1 P i (pc, 56, z, a, b, c) L S h (kMW K Q mc ms P) Q) : MW K Q mc ms pc L S h := by
  have d := okD_of ok
  match S, w with
  | t :: v :: u :: S, w =>
    obtain ⟨tt, x⟩ := t
    obtain ⟨tv, x'⟩ := v
    obtain ⟨tu, y⟩ := u
    obtain ⟨e0, e1, e2, e3, e4, e5, e6, w⟩ := w
    have e0 : tt = 0 := e0
    have e1 : tv = 0 := e1
    have e2 : tu = 2 := e2
    subst e0 e1 e2
    exact m_iast _ d.1 d.2 (r := y) (i := x') e3.1 e4 e3.2.1 e5 e3.2.2.1 e3.2.2.2 w
theorem so_57 (hK : K.2.1 = mcn o) (ok : ok1 K o P i (pc, 57, z, a, b, c) = true) (w : wp1 P i (pc, 57, z, a, b, c) L S h (kMW K Q mc ms P) Q) : MW K Q mc ms pc L S h := by
  have d := okD_of ok
  match S, w with
  | t :: v :: u :: S, w =>
    obtain ⟨tt, x⟩ := t
    obtain ⟨tv, x'⟩ := v
    obtain ⟨tu, y⟩ := u
    obtain ⟨e0, e1, e2, e3, e4, e5, e6, w⟩ := w
    have e0 : tt = 1 := e0
    have e1 : tv = 0 := e1
    have e2 : tu = 2 := e2
    subst e0 e1 e2
    exact m_last _ d.1 d.2 (r := y) (i := x') e3.1 e4 e3.2.1 e5 e3.2.2.1 e3.2.2.2 w
theorem so_59 (hK : K.2.1 = mcn o) (ok : ok1 K o P i (pc, 59, z, a, b, c) = true) (w : wp1 P i (pc, 59, z, a, b, c) L S h (kMW K Q mc ms P) Q) : MW K Q mc ms pc L S h := by
  have d := okD_of ok
  match S, w with
  | t :: v :: u :: S, w =>
    obtain ⟨tt, x⟩ := t
    obtain ⟨tv, x'⟩ := v
    obtain ⟨tu, y⟩ := u
    obtain ⟨e0, e1, e2, e3, e4, e5, e6, w⟩ := w
    have e0 : tt = 0 := e0
    have e1 : tv = 0 := e1
    have e2 : tu = 2 := e2
    subst e0 e1 e2
    exact m_cast _ d.1 d.2 (r := y) (i := x') e3.1 e4 e3.2.1 e5 e3.2.2.1 e3.2.2.2 (e6 (by decide) (by decide)) w
theorem so_58 (hK : K.2.1 = mcn o) (ok : ok1 K o P i (pc, 58, z, a, b, c) = true) (w : wp1 P i (pc, 58, z, a, b, c) L S h (kMW K Q mc ms P) Q) : MW K Q mc ms pc L S h := by
  have d := okD_of ok
  match S, w with
  | t :: v :: u :: S, w =>
    have w : (if (h.2 u.2.toNat).1 = 2 then sAst 2 0 (t :: v :: u :: S) h (fun S h => MW K Q mc ms (pcA P (i + 1)) L S h) else sAst 3 0 (t :: v :: u :: S) h (fun S h => MW K Q mc ms (pcA P (i + 1)) L S h)) := w
    split at w
    · obtain ⟨tt, x⟩ := t
      obtain ⟨tv, x'⟩ := v
      obtain ⟨tu, y⟩ := u
      obtain ⟨e0, e1, e2, e3, e4, e5, e6, w⟩ := w
      have e0 : tt = 0 := e0
      have e1 : tv = 0 := e1
      have e2 : tu = 2 := e2
      subst e0 e1 e2
      exact m_zast _ d.1 d.2 (r := y) (i := x') e3.1 e4 e3.2.1 e5 e3.2.2.1 e3.2.2.2 (e6 (by decide) (by decide)) w
    · obtain ⟨tt, x⟩ := t
      obtain ⟨tv, x'⟩ := v
      obtain ⟨tu, y⟩ := u
      obtain ⟨e0, e1, e2, e3, e4, e5, e6, w⟩ := w
      have e0 : tt = 0 := e0
      have e1 : tv = 0 := e1
      have e2 : tu = 2 := e2
      subst e0 e1 e2
      exact m_bast _ d.1 d.2 (r := y) (i := x') e3.1 e4 e3.2.1 e5 e3.2.2.1 e3.2.2.2 (e6 (by decide) (by decide)) w
theorem so_60 (hK : K.2.1 = mcn o) (ok : ok1 K o P i (pc, 60, z, a, b, c) = true) (w : wp1 P i (pc, 60, z, a, b, c) L S h (kMW K Q mc ms P) Q) : MW K Q mc ms pc L S h := by
  have d := okD_of ok
  match S, w with
  | u :: S, w =>
    obtain ⟨tu, y⟩ := u
    obtain ⟨e2, e3, e4, e5, e6, w⟩ := w
    have e2 : tu = 2 := e2
    subst e2
    exact m_alen _ d.1 d.2 (r := y) e3 e4 e5 e6 w
theorem so_61 (hK : K.2.1 = mcn o) (ok : ok1 K o P i (pc, 61, z, a, b, c) = true) (w : wp1 P i (pc, 61, z, a, b, c) L S h (kMW K Q mc ms P) Q) : MW K Q mc ms pc L S h := by
  have q := and2 ok
  have d := okT_of q.1
  have hr : retOk K a = true := q.2
  match S, w with
  | [v], w =>
    obtain ⟨tv, x⟩ := v
    obtain ⟨e1, e2, e3, w⟩ := w
    have e1 : tv = 0 := e1
    subst e1
    have e2 : a = 4 → 0 ≤ x ∧ x ≤ 1 := e2
    have e3 : a = 5 → 0 ≤ x ∧ x ≤ 65535 := e3
    unfold retOk at hr
    split at hr
    · next e => exact m_ireturn d e rfl w
    · next e => exact m_ireturn d e (m_narZ (e2 (Nat.eq_of_beq_eq_true hr))) w
    · next e => exact m_ireturn d e (m_narC (e3 (Nat.eq_of_beq_eq_true hr))) w
    · exact absurd hr (by decide)
theorem so_62 (hK : K.2.1 = mcn o) (ok : ok1 K o P i (pc, 62, z, a, b, c) = true) (w : wp1 P i (pc, 62, z, a, b, c) L S h (kMW K Q mc ms P) Q) : MW K Q mc ms pc L S h := by
  have q := and2 ok
  have d := okT_of q.1
  match S, w with
  | [v], w =>
    obtain ⟨tv, x⟩ := v
    obtain ⟨e1, w⟩ := w
    have e1 : tv = 1 := e1
    subst e1
    exact m_lreturn d (of_decide_eq_true q.2) w
theorem so_63 (hK : K.2.1 = mcn o) (ok : ok1 K o P i (pc, 63, z, a, b, c) = true) (w : wp1 P i (pc, 63, z, a, b, c) L S h (kMW K Q mc ms P) Q) : MW K Q mc ms pc L S h := by
  have q := and2 ok
  have d := okT_of q.1
  obtain ⟨e, w⟩ := w
  have e : S = [] := e
  subst e
  exact m_return d (of_decide_eq_true q.2) w
theorem so_64 (hK : K.2.1 = mcn o) (ok : ok1 K o P i (pc, 64, z, a, b, c) = true) (w : wp1 P i (pc, 64, z, a, b, c) L S h (kMW K Q mc ms P) Q) : MW K Q mc ms pc L S h := by
  have q := and2 ok
  have d := okT_of q.1
  have hr : refRet K = true := q.2
  match S, w with
  | [v], w =>
    obtain ⟨tv, x⟩ := v
    obtain ⟨e1, w⟩ := w
    have e1 : tv = 2 := e1
    subst e1
    unfold refRet at hr
    split at hr
    · next n e => exact m_areturn d e (Or.inl ⟨n, rfl⟩) w
    · next n e => exact m_areturn d e (Or.inr ⟨n, rfl⟩) w
    · exact absurd hr (by decide)
theorem so_65 (hK : K.2.1 = mcn o) (ok : ok1 K o P i (pc, 65, z, a, b, c) = true) (w : wp1 P i (pc, 65, z, a, b, c) L S h (kMW K Q mc ms P) Q) : MW K Q mc ms pc L S h := by
  replace ok : okSw K P pc b P.2[a]? = true := ok
  replace w : sSw P.2[a]? S (fun t S => MW K Q mc ms (pcA P t) L S h) := w
  cases e : P.2[a]? with
  | none => rw [e] at ok; exact absurd (show false = true from ok) (by decide)
  | some q =>
    rw [e] at ok w
    obtain ⟨lo, ds⟩ := q
    cases ds with
    | nil => exact absurd (show false = true from ok) (by decide)
    | cons dflt ts =>
      cases S with
      | nil => exact w.elim
      | cons u S =>
        obtain ⟨tu, x⟩ := u
        obtain ⟨e1, w⟩ := w
        have e1 : tu = 0 := e1
        subst e1
        have d := okT_of (show okT K pc (.tableswitch (offTo P pc dflt) lo (lo + ts.length - 1) (offsOk P pc ts).toArray) b = true from ok)
        replace w : sSw2 ts[(x - lo).toNat]? lo dflt x (fun t => MW K Q mc ms (pcA P t) L S h) := w
        unfold sSw2 at w
        cases e2 : ts[(x - lo).toNat]? with
        | none =>
          rw [e2] at w
          have hl := List.getElem?_eq_none_iff.mp e2
          exact m_tswOut _ d (by omega) (offTo_at P pc dflt) w
        | some t =>
          rw [e2] at w
          have hl := (List.getElem?_eq_some_iff.mp e2).1
          by_cases hx : lo ≤ x
          · replace w : (if lo ≤ x then MW K Q mc ms (pcA P t) L S h else MW K Q mc ms (pcA P dflt) L S h) := w
            rw [if_pos hx] at w
            refine m_tswIn _ d (x := x) (off := offTo P pc t) hx (by omega) ?_ (offTo_at P pc t) w
            unfold offsOk
            rw [List.getElem?_toArray, List.getElem?_map, e2]
            rfl
          · replace w : (if lo ≤ x then MW K Q mc ms (pcA P t) L S h else MW K Q mc ms (pcA P dflt) L S h) := w
            rw [if_neg hx] at w
            exact m_tswOut _ d (by omega) (offTo_at P pc dflt) w
theorem so_66 (hK : K.2.1 = mcn o) (ok : ok1 K o P i (pc, 66, z, a, b, c) = true) (w : wp1 P i (pc, 66, z, a, b, c) L S h (kMW K Q mc ms P) Q) : MW K Q mc ms pc L S h := by
  have q := and2 ok
  have d := okD_of q.1
  have q2 := and2 q.2
  have q3 := of_decide_eq_true q2.1
  have m := ST_ok o (z.toNat, a) (List.contains_iff_mem.mp q2.2)
  rw [← hK] at m
  exact m_getstatic _ d.1 d.2 q3.1 q3.2 m w
theorem so_69 (hK : K.2.1 = mcn o) (ok : ok1 K o P i (pc, 69, z, a, b, c) = true) (w : wp1 P i (pc, 69, z, a, b, c) L S h (kMW K Q mc ms P) Q) : MW K Q mc ms pc L S h := by
  have q := and2 ok
  have d := okD_of q.1
  have q2 := and2 q.2
  have hr := of_decide_eq_true q2.2
  have m : MMk o (z.toNat, 0) := MM_ok o (z.toNat, 0) (List.contains_iff_mem.mp q2.1)
  unfold MMk at m
  rw [← hK] at m
  match S, w with
  | v :: u :: S, w =>
    obtain ⟨tv, y⟩ := v
    obtain ⟨tu, x⟩ := u
    obtain ⟨e1, e2, e3, w⟩ := w
    have e1 : tu = 0 := e1
    have e2 : tv = 0 := e2
    subst e1 e2
    have e3 : (S.map mcat).sum ≤ 8 := e3
    refine m_mmin _ d.1 d.2 m ⟨hr.1, by have := hr.2; omega⟩ (fun v hv => ?_)
    have e : v = iMin x y := by
      unfold iMin
      split <;> omega
    rw [e]
    exact w
theorem so_70 (hK : K.2.1 = mcn o) (ok : ok1 K o P i (pc, 70, z, a, b, c) = true) (w : wp1 P i (pc, 70, z, a, b, c) L S h (kMW K Q mc ms P) Q) : MW K Q mc ms pc L S h := by
  have q := and2 ok
  have d := okD_of q.1
  have q2 := and2 q.2
  have hr := of_decide_eq_true q2.2
  have m : MMk o (z.toNat, 1) := MM_ok o (z.toNat, 1) (List.contains_iff_mem.mp q2.1)
  unfold MMk at m
  rw [← hK] at m
  match S, w with
  | v :: u :: S, w =>
    obtain ⟨tv, y⟩ := v
    obtain ⟨tu, x⟩ := u
    obtain ⟨e1, e2, e3, w⟩ := w
    have e1 : tu = 0 := e1
    have e2 : tv = 0 := e2
    subst e1 e2
    have e3 : (S.map mcat).sum ≤ 8 := e3
    refine m_mmax _ d.1 d.2 m ⟨hr.1, by have := hr.2; omega⟩ (fun v hv => ?_)
    have e : v = iMax x y := by
      unfold iMax
      split <;> omega
    rw [e]
    exact w
theorem so_71 (hK : K.2.1 = mcn o) (ok : ok1 K o P i (pc, 71, z, a, b, c) = true) (w : wp1 P i (pc, 71, z, a, b, c) L S h (kMW K Q mc ms P) Q) : MW K Q mc ms pc L S h := by
  have q := and2 ok
  have d := okD_of q.1
  have q2 := and2 q.2
  have hr := of_decide_eq_true q2.2
  have m : MMk o (z.toNat, 2) := MM_ok o (z.toNat, 2) (List.contains_iff_mem.mp q2.1)
  unfold MMk at m
  rw [← hK] at m
  match S, w with
  | v :: u :: S, w =>
    obtain ⟨tv, y⟩ := v
    obtain ⟨tu, x⟩ := u
    obtain ⟨e1, e2, e3, w⟩ := w
    have e1 : tu = 1 := e1
    have e2 : tv = 1 := e2
    subst e1 e2
    have e3 : (S.map mcat).sum ≤ 8 := e3
    refine m_mminL _ d.1 d.2 m ⟨hr.1, by have := hr.2; omega⟩ (fun v hv => ?_)
    have e : v = iMin x y := by
      unfold iMin
      split <;> omega
    rw [e]
    exact w
theorem so_72 (hK : K.2.1 = mcn o) (ok : ok1 K o P i (pc, 72, z, a, b, c) = true) (w : wp1 P i (pc, 72, z, a, b, c) L S h (kMW K Q mc ms P) Q) : MW K Q mc ms pc L S h := by
  have q := and2 ok
  have d := okD_of q.1
  have q2 := and2 q.2
  have hr := of_decide_eq_true q2.2
  have m : MMk o (z.toNat, 3) := MM_ok o (z.toNat, 3) (List.contains_iff_mem.mp q2.1)
  unfold MMk at m
  rw [← hK] at m
  match S, w with
  | v :: u :: S, w =>
    obtain ⟨tv, y⟩ := v
    obtain ⟨tu, x⟩ := u
    obtain ⟨e1, e2, e3, w⟩ := w
    have e1 : tu = 1 := e1
    have e2 : tv = 1 := e2
    subst e1 e2
    have e3 : (S.map mcat).sum ≤ 8 := e3
    refine m_mmaxL _ d.1 d.2 m ⟨hr.1, by have := hr.2; omega⟩ (fun v hv => ?_)
    have e : v = iMax x y := by
      unfold iMax
      split <;> omega
    rw [e]
    exact w
/-- the general step -/
theorem so1 (ok : okP K o P = true) {mi : MI} (hi : P.1[i]? = some mi) (w : wp1 P i mi L S h (kMW K Q mc ms P) Q) : MW K Q mc ms (pcA P i) L S h := by
  obtain ⟨ok, hK⟩ := okP_at ok hi
  have hp : pcA P i = mi.1 := by
    unfold pcA
    rw [hi]
  rw [hp]
  obtain ⟨pc, n, z, a, b, c⟩ := mi
  match n, ok, w with
  | 1, ok, w => exact so_1 hK ok w
  | 2, ok, w => exact so_2 hK ok w
  | 3, ok, w => exact so_3 hK ok w
  | 4, ok, w => exact so_4 hK ok w
  | 5, ok, w => exact so_5 hK ok w
  | 7, ok, w => exact so_7 hK ok w
  | 8, ok, w => exact so_8 hK ok w
  | 9, ok, w => exact so_9 hK ok w
  | 11, ok, w => exact so_11 hK ok w
  | 12, ok, w => exact so_12 hK ok w
  | 13, ok, w => exact so_13 hK ok w
  | 14, ok, w => exact so_14 hK ok w
  | 15, ok, w => exact so_15 hK ok w
  | 16, ok, w => exact so_16 hK ok w
  | 17, ok, w => exact so_17 hK ok w
  | 18, ok, w => exact so_18 hK ok w
  | 19, ok, w => exact so_19 hK ok w
  | 20, ok, w => exact so_20 hK ok w
  | 21, ok, w => exact so_21 hK ok w
  | 22, ok, w => exact so_22 hK ok w
  | 23, ok, w => exact so_23 hK ok w
  | 24, ok, w => exact so_24 hK ok w
  | 25, ok, w => exact so_25 hK ok w
  | 26, ok, w => exact so_26 hK ok w
  | 27, ok, w => exact so_27 hK ok w
  | 28, ok, w => exact so_28 hK ok w
  | 29, ok, w => exact so_29 hK ok w
  | 30, ok, w => exact so_30 hK ok w
  | 31, ok, w => exact so_31 hK ok w
  | 32, ok, w => exact so_32 hK ok w
  | 33, ok, w => exact so_33 hK ok w
  | 35, ok, w => exact so_35 hK ok w
  | 36, ok, w => exact so_36 hK ok w
  | 37, ok, w => exact so_37 hK ok w
  | 38, ok, w => exact so_38 hK ok w
  | 39, ok, w => exact so_39 hK ok w
  | 40, ok, w => exact so_40 hK ok w
  | 41, ok, w => exact so_41 hK ok w
  | 42, ok, w => exact so_42 hK ok w
  | 43, ok, w => exact so_43 hK ok w
  | 44, ok, w => exact so_44 hK ok w
  | 45, ok, w => exact so_45 hK ok w
  | 46, ok, w => exact so_46 hK ok w
  | 47, ok, w => exact so_47 hK ok w
  | 48, ok, w => exact so_48 hK ok w
  | 49, ok, w => exact so_49 hK ok w
  | 50, ok, w => exact so_50 hK ok w
  | 51, ok, w => exact so_51 hK ok w
  | 52, ok, w => exact so_52 hK ok w
  | 53, ok, w => exact so_53 hK ok w
  | 54, ok, w => exact so_54 hK ok w
  | 55, ok, w => exact so_55 hK ok w
  | 56, ok, w => exact so_56 hK ok w
  | 57, ok, w => exact so_57 hK ok w
  | 58, ok, w => exact so_58 hK ok w
  | 59, ok, w => exact so_59 hK ok w
  | 60, ok, w => exact so_60 hK ok w
  | 61, ok, w => exact so_61 hK ok w
  | 62, ok, w => exact so_62 hK ok w
  | 63, ok, w => exact so_63 hK ok w
  | 64, ok, w => exact so_64 hK ok w
  | 65, ok, w => exact so_65 hK ok w
  | 66, ok, w => exact so_66 hK ok w
  | 69, ok, w => exact so_69 hK ok w
  | 70, ok, w => exact so_70 hK ok w
  | 71, ok, w => exact so_71 hK ok w
  | 72, ok, w => exact so_72 hK ok w
  | 0, ok, w => exact w.elim
  | 6, ok, w => exact w.elim
  | 10, ok, w => exact w.elim
  | 34, ok, w => exact w.elim
  | 67, ok, w => exact w.elim
  | 68, ok, w => exact w.elim
  | n + 73, ok, w => exact w.elim
end MO1
