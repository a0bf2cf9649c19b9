/-! The mini layer: the machine's heap seen as numbered cells of whole numbers; MW: a walk goes well from here. -/
abbrev MV : Type := Nat × Int
abbrev MC : Type := Nat × Nat × (Nat → Int)
abbrev MH : Type := Nat × (Nat → MC)
/-- classes of the program, in the order of their numbers -/
abbrev mcl : List vw_C := [(RX0, TX0, 22), (RX1, TX1, 3), (RX2, TX2, 22), (RX3, TX3, 23), (RX4, TX4, 20), (RX5, TX5, 6), (RX6, TX6, 11), (RX7, TX7, 22), (RX8, TX8, 22), (RX9, TX9, 22), (RX10, TX10, 19), (RX11, TX11, 10), (RX12, TX12, 32), (RX13, TX13, 38), (RX14, TX14, 26), (RX15, TX15, 40), (RX16, TX16, 30), (RX17, TX17, 32), (RX18, TX18, 25), (RX19, TX19, 35), (RX20, TX20, 19)]
def mval (ad : Nat → Nat) (v : MV) : Value := match v.1 with
  | 0 => .int (Int32.ofInt v.2)
  | 1 => .long (Int64.ofInt v.2)
  | 2 => if v.2 < 0 then .null else .ref (ad v.2.toNat)
  | _ => .double (UInt64.ofNat v.2.toNat)
/-- where cell a lies: four cells that were there before, then those made since -/
def mad (x : Nat → Nat) (s0 a : Nat) : Nat := if a < 4 then x a else s0 + (a - 4)
def mref (ad : Nat → Nat) (z : Int) : Option Nat := if z < 0 then none else some (ad z.toNat)
/-- an array's contents as the kit has them: 0 int, 1 long, 2 boolean, 3 byte, 4 char, 6 int[][], 7 long[][], 8 Big[] -/
def mvp (ad : Nat → Nat) (c : MC) : vp_A := match c.1 with
  | 1 => (c.2.1, .inr (.inl fun j => Int64.ofInt (c.2.2 j)))
  | 6 => (c.2.1, .inr (.inr (.inr (.inr fun j => mref ad (c.2.2 j)))))
  | 7 => (c.2.1, .inr (.inr (.inr (.inr fun j => mref ad (c.2.2 j)))))
  | 8 => (c.2.1, .inr (.inr (.inr (.inr fun j => mref ad (c.2.2 j)))))
  | _ => (c.2.1, .inl fun j => Int32.ofInt (c.2.2 j))
def mty (k : Nat) : FieldType := match k with
  | 0 => .int
  | 1 => .long
  | 2 => .boolean
  | 3 => .byte
  | 4 => .char
  | 6 => .array .int
  | 7 => .array .long
  | _ => .object "RoadHouse$Big"
/-- of field j of class ci: 0 a small number, 1 long, 2 a reference, 3 double -/
def mftOf (t : FieldType) : Nat := match t with
  | .long => 1
  | .double => 3
  | .object _ => 2
  | .array _ => 2
  | _ => 0
def mft (ci j : Nat) : Nat := match mcl[ci]? with
  | some r => (match parseFieldDescriptor (r.2.1 j).2.2.1 with
    | some t => mftOf t
    | none => 0)
  | none => 0
/-- cell c lies at q -/
def mAt (D : va_G) (ad : Nat → Nat) (s : State) (H : Heap) (q : Nat) (c : MC) : Prop :=
  if c.1 < 16 then ∃ cA : ClassId, H[q]? = some (vp_cell cA (mvp ad c)) ∧ ArrOfT s cA (mty c.1) ∧ va_RA s cA (mty c.1)
  else c.1 = 99 ∨ ∃ r : vw_C, mcl[c.1 - 16]? = some r ∧ t_OB q (D.1 (c.1 - 16)) r.2.2 (D.2 (c.1 - 16)) H (fun j => mval ad (mft (c.1 - 16) j, c.2.2 j))
/-- a value in its range -/
def mok (v : MV) : Prop := match v.1 with
  | 0 => -2147483648 ≤ v.2 ∧ v.2 ≤ 2147483647
  | 1 => -9223372036854775808 ≤ v.2 ∧ v.2 ≤ 9223372036854775807
  | 2 => True
  | _ => 0 ≤ v.2 ∧ v.2 ≤ 18446744073709551615
def mokE (k : Nat) (z : Int) : Prop := match k with
  | 0 => -2147483648 ≤ z ∧ z ≤ 2147483647
  | 1 => -9223372036854775808 ≤ z ∧ z ≤ 9223372036854775807
  | 2 => 0 ≤ z ∧ z ≤ 1
  | 3 => -128 ≤ z ∧ z ≤ 127
  | 4 => 0 ≤ z ∧ z ≤ 65535
  | _ => True
def mokS (S : List MV) : Prop := ∀ v ∈ S, mok v
def mokL (L : List (Nat × MV)) : Prop := ∀ q ∈ L, mok q.2
def mokC (c : MC) : Prop := if c.1 < 16 then ∀ j : Nat, j < c.2.1 → mokE c.1 (c.2.2 j) else ∀ j : Nat, mok (mft (c.1 - 16) j, c.2.2 j)
theorem mokS_cons {v : MV} {S : List MV} : mokS (v :: S) ↔ mok v ∧ mokS S := List.forall_mem_cons
theorem mokL_cons {q : Nat × MV} {L : List (Nat × MV)} : mokL (q :: L) ↔ mok q.2 ∧ mokL L := List.forall_mem_cons
def mxn (k : Nat) : String := match k with
  | 1 => "DX"
  | 2 => "DY"
  | _ => "LENGTH"
/-- the cells that were there before: 0 the script, 1 to 3 the rows of class Way -/
def mEx (x : Nat → Nat) (s0 : Nat) (s : State) (H : Heap) (k : Nat) (c : MC) : Prop :=
  x k < s0 ∧ c.1 = 0 ∧ (∃ cell : Cell, H[x k]? = some cell ∧ s.isArrayOf cell .int ∧ cell.vm ≠ .unknown ∧ c.2.1 ≤ cell.slots.size ∧ cell.slots.size.toInt32 = Int32.ofNat c.2.1 ∧ ∀ j : Nat, j < c.2.1 → cell.slots[j]? = some (.int (Int32.ofInt (c.2.2 j)))) ∧
  (k = 0 ∨ va_Z "RoadHouse$Way" (mxn k) "[I" (.ref (x k)) (fun q => s0 ≤ q) s H)
/-- the heap holds h -/
def mRep (D : va_G) (x : Nat → Nat) (s0 : Nat) (s : State) (H : Heap) (h : MH) : Prop :=
  4 ≤ h.1 ∧ H.size + 4 = s0 + h.1 ∧ va_K D mcl [] s ∧ (∀ a, a < h.1 → mokC (h.2 a)) ∧ (∀ k, k < 4 → mEx x s0 s H k (h.2 k)) ∧ ∀ a, 4 ≤ a → a < h.1 → mAt D (mad x s0) s H (mad x s0 a) (h.2 a)
/-- kind (0 plain, 1 draws, 2 throws), class, code, locals, what it returns, frames and locals that its callees may take -/
abbrev mK : Type := Nat × String × ByteArray × Nat × Option FieldType × Nat × Nat
/-- words that don't stay in lists of words: nest mates' links, arrays over arrays -/
def mNL : List (String × Nat × MethodName × String) := [("RoadHouse", 9, ⟨"RoadHouse$Way", "<init>", "()V"⟩, "RoadHouse"), ("RoadHouse$Way", 66, ⟨"RoadHouse$Search", "<init>", "()V"⟩, "RoadHouse"), ("RoadHouse", 18, ⟨"RoadHouse$Earth", "<init>", "()V"⟩, "RoadHouse"), ("RoadHouse", 39, ⟨"RoadHouse$Stress", "<init>", "()V"⟩, "RoadHouse"), ("RoadHouse", 53, ⟨"RoadHouse$Cars", "<init>", "()V"⟩, "RoadHouse"), ("RoadHouse$Beams", 203, ⟨"RoadHouse", "common", "(JJ)J"⟩, "RoadHouse"), ("RoadHouse$Ratio", 55, ⟨"RoadHouse", "common", "(JJ)J"⟩, "RoadHouse"), ("RoadHouse$Trains", 206, ⟨"RoadHouse", "common", "(JJ)J"⟩, "RoadHouse"), ("RoadHouse$Way", 220, ⟨"RoadHouse", "common", "(JJ)J"⟩, "RoadHouse")]
def mNs (s : State) : Prop := (∀ q ∈ mNL, va_Nw (.methodLinkNest q.1 q.2.1 q.2.2.1 q.2.2.2) s) ∧ va_Nw (.fieldLinkNest "RoadHouseModel" 211 "RoadHouseModel$InfluenceRowsModel" "lengths" "[I" "RoadHouseModel") s ∧ va_Nw (.castable "[J" "java/lang/Cloneable") s ∧ (Cond.arrayOver (.array .int)).before #[] s = true ∧ (Cond.arrayOver (.array .long)).before #[] s = true ∧ (Cond.arrayOver (.object "RoadHouse$Big")).before #[] s = true
theorem mNs.warm {s U : State} (hW : s.WarmedH U.vm) (h : mNs s) : mNs U :=
  ⟨fun q hq => va_Nw.warmM hW (h.1 q hq), va_Nw.warmF hW h.2.1, va_Nw.warmC hW h.2.2.1, over_moved (a := #[]) (a' := #[]) hW.alike h.2.2.2.1, over_moved (a := #[]) (a' := #[]) hW.alike h.2.2.2.2.1, va_AO.moved (C := "RoadHouse$Big") hW.alike h.2.2.2.2.2⟩
theorem mNs.drawn {s : State} (d : Drawn) (h : mNs s) : mNs (s.setDrawn d) :=
  ⟨fun q hq => (Cond.before_setDrawn _ s d _).trans (h.1 q hq), (Cond.before_setDrawn _ s d _).trans h.2.1, (Cond.before_setDrawn _ s d _).trans h.2.2.1, (Cond.before_setDrawn _ s d _).trans h.2.2.2.1, (Cond.before_setDrawn _ s d _).trans h.2.2.2.2.1, (Cond.before_setDrawn _ s d _).trans h.2.2.2.2.2⟩
/-- the words that every method has -/
def mTB : List Cond := lw_tbl.filter goodWord
/-- what a method answers: nothing (0), a value (1), or a throw of class n (2) -/
abbrev MO : Type := Nat × MV
def mQc (D : va_G) (x : Nat → Nat) (s0 : Nat) (Qr : MO → MH → Prop) : Array Value → State → Outcome → State → Prop := fun _ st o t =>
  ∃ (r : MO) (h : MH), Qr r h ∧ mok r.2 ∧ ((r.1 = 0 ∧ o = .returned none) ∨ (r.1 = 1 ∧ o = .returned (some (mval (mad x s0) r.2)))) ∧ mRep D x s0 t t.heap h ∧ va_F (fun q => s0 ≤ q) st t
/-- classes that are thrown -/
def mxE (n : Nat) : String := match n with
  | 1 => "java/lang/ArrayIndexOutOfBoundsException"
  | 2 => "java/lang/IllegalArgumentException"
  | 3 => "java/lang/IllegalStateException"
  | _ => "java/lang/NegativeArraySizeException"
/-- where a throw leaves the method -/
def mXc (D : va_G) (x : Nat → Nat) (s0 : Nat) (Qr : MO → MH → Prop) : String → State → State → Prop := fun E st t =>
  ∃ (n : Nat) (h : MH), Qr (2, (0, (n : Int))) h ∧ E = mxE n ∧ mRep D x s0 t t.heap h ∧ va_F (fun q => s0 ≤ q) st t
/-- what a law that catches knows besides: no traces, what lies in Throwable's statics, which class isn't which -/
def mEX (l : Launch) (s : State) (s0 : Nat) : Prop := l.stackTraces = false ∧ vx_Zq Bundle.tN "UNASSIGNED_STACK" Bundle.steD (fun q => s0 ≤ q) s s.heap ∧ vx_Zq Bundle.tN "SUPPRESSED_SENTINEL" Bundle.listD (fun q => s0 ≤ q) s s.heap ∧ ∀ i j : Nat, 1 ≤ i → i ≤ 4 → 1 ≤ j → j ≤ 4 → i ≠ j → va_Nc (mxE i) (mxE j) s
theorem mEX.drawn {l : Launch} {s : State} {s0 : Nat} (d : Drawn) (h : mEX l s s0) : mEX l (s.setDrawn d) s0 :=
  ⟨h.1, h.2.1.moved (u := s) (U := s.setDrawn d) (Vm.Alike.refl _), h.2.2.1.moved (u := s) (U := s.setDrawn d) (Vm.Alike.refl _), fun i j a b c e n => (h.2.2.2 i j a b c e n).moved (u := s) (U := s.setDrawn d) (Vm.Alike.refl _)⟩
/-- what the walk must come to -/
def mFin (l : Launch) (c : Code) (k fr : Nat) (D : va_G) (x : Nat → Nat) (s0 : Nat) (Qr : MO → MH → Prop) (below : List Frame) (args : Array Value) (MC MS : Nat) (s : State) (Q : State → Prop) : Prop :=
  ((k = 0 ∨ k = 3) ∧ Q = MQ below (mQc D x s0 Qr) args s MC MS (fun q => s0 ≤ q)) ∨
  (k = 1 ∧ (1000 ≤ fr → mEX l s s0) ∧ ∃ (s1 : State) (d0 : Drawn), s = s1.setDrawn d0 ∧ s1.drawn.sameBut d0 lw_cs ∧ Q = MQD lw_cs below (mQc D x s0 Qr) args s1 MC MS (fun q => s0 ≤ q)) ∨
  (k = 2 ∧ l.stackTraces = false ∧ (∀ z ∈ c.exceptionTable.toList, False) ∧ vx_Zq Bundle.tN "UNASSIGNED_STACK" Bundle.steD (fun q => s0 ≤ q) s s.heap ∧ vx_Zq Bundle.tN "SUPPRESSED_SENTINEL" Bundle.listD (fun q => s0 ≤ q) s s.heap ∧ Q = vx_MQ below (mQc D x s0 Qr) (mXc D x s0 Qr) args s MC MS (fun q => s0 ≤ q))
def mL (ad : Nat → Nat) (L : List (Nat × MV)) : List (Nat × Value) := L.map fun q => (q.1, mval ad q.2)
def mS (ad : Nat → Nat) (S : List MV) : List Value := S.map (mval ad)
/-- what stays while a method's body is walked -/
def mCx (K : mK) (p : Program) (R : Room) (s : State) (m : MethodId) (args : Array Value) (meth : Method) (c : Code) (s0 MC MS : Nat) : Prop :=
  p.tables.exec = Jvm.exec ∧ c.code = K.2.2.1 ∧ c.maxLocals = K.2.2.2.1 ∧ meth.sig.returnType = K.2.2.2.2.1 ∧ s.vm.findClass K.2.1 = some m.cls ∧ (∀ w ∈ mTB, w.before args s = true) ∧ meth.locks = false ∧ K.2.2.2.2.2.1 ≤ R.frames ∧ K.2.2.2.2.2.2 ≤ R.locals ∧ MC ≤ R.cells ∧ MS ≤ R.slots ∧ s0 ≤ s.heap.size ∧ (K.1 = 3 → meth.name = "<init>") ∧ mNs s
/-- from pc, with these locals, this stack, this heap, and room for mc cells and ms slots, the method comes to an end that Qr says -/
def MW (K : mK) (Qr : MO → MH → Prop) (mc ms : Nat) (pc : Nat) (L : List (Nat × MV)) (S : List MV) (h : MH) : Prop :=
  ∀ (D : va_G) (x : Nat → Nat) (s0 : Nat) (p : Program) (l : Launch) (e : Env) (R : Room) (s : State) (m : MethodId) (args : Array Value) (below : List Frame) (meth : Method) (c : Code) (H : Heap) (locs : List Loc) (cells slots MC MS : Nat) (Q : State → Prop) (ls : Array Slot),
    mCx K p R s m args meth c s0 MC MS → mFin l c K.1 K.2.2.2.2.2.1 D x s0 Qr below args MC MS s Q → mRep D x s0 s H h → va_S (fun q => s0 ≤ q) s.heap H locs → lv_has ls K.2.2.2.1 (mL (mad x s0) L) → mokL L → mokS S → cells + mc ≤ MC → slots + ms ≤ MS →
    W p l e R s m args below meth c H locs cells slots Q (F0 m pc ls (mS (mad x s0) S))
theorem mokS_i {z : Int} {S : List MV} (h : -2147483648 ≤ z ∧ z ≤ 2147483647) (o : mokS S) : mokS ((0, z) :: S) := mokS_cons.mpr ⟨h, o⟩
theorem mokS_l {z : Int} {S : List MV} (h : -9223372036854775808 ≤ z ∧ z ≤ 9223372036854775807) (o : mokS S) : mokS ((1, z) :: S) := mokS_cons.mpr ⟨h, o⟩
theorem mok_i {z : Int} (h : mok (0, z)) : -2147483648 ≤ z ∧ z ≤ 2147483647 := h
theorem mok_l {z : Int} (h : mok (1, z)) : -9223372036854775808 ≤ z ∧ z ≤ 9223372036854775807 := h
theorem mI_toInt {z : Int} (h : -2147483648 ≤ z ∧ z ≤ 2147483647) : (Int32.ofInt z).toInt = z := by
  exact Int32.toInt_ofInt_of_le (by omega) (by omega)
theorem mL_toInt {z : Int} (h : -9223372036854775808 ≤ z ∧ z ≤ 9223372036854775807) : (Int64.ofInt z).toInt = z := by
  exact Int64.toInt_ofInt_of_le (by omega) (by omega)
theorem mI_rng (r : Int32) : -2147483648 ≤ r.toInt ∧ r.toInt ≤ 2147483647 := by
  have h1 := r.minValue_le_toInt
  have h2 := r.toInt_le
  exact ⟨h1, h2⟩
theorem mL_rng (r : Int64) : -9223372036854775808 ≤ r.toInt ∧ r.toInt ≤ 9223372036854775807 := by
  have h1 := r.minValue_le_toInt
  have h2 := r.toInt_le
  exact ⟨h1, h2⟩
theorem mI_inj {x y : Int} (hx : -2147483648 ≤ x ∧ x ≤ 2147483647) (hy : -2147483648 ≤ y ∧ y ≤ 2147483647) : Int32.ofInt x = Int32.ofInt y ↔ x = y := by
  rw [← Int32.toInt_inj, mI_toInt hx, mI_toInt hy]
theorem mI_lt {x y : Int} (hx : -2147483648 ≤ x ∧ x ≤ 2147483647) (hy : -2147483648 ≤ y ∧ y ≤ 2147483647) : Int32.ofInt x < Int32.ofInt y ↔ x < y := by
  rw [Int32.lt_iff_toInt_lt, mI_toInt hx, mI_toInt hy]
theorem mI_le {x y : Int} (hx : -2147483648 ≤ x ∧ x ≤ 2147483647) (hy : -2147483648 ≤ y ∧ y ≤ 2147483647) : Int32.ofInt x ≤ Int32.ofInt y ↔ x ≤ y := by
  rw [Int32.le_iff_toInt_le, mI_toInt hx, mI_toInt hy]
theorem mL_inj {x y : Int} (hx : -9223372036854775808 ≤ x ∧ x ≤ 9223372036854775807) (hy : -9223372036854775808 ≤ y ∧ y ≤ 9223372036854775807) : Int64.ofInt x = Int64.ofInt y ↔ x = y := by
  rw [← Int64.toInt_inj, mL_toInt hx, mL_toInt hy]
theorem mL_lt {x y : Int} (hx : -9223372036854775808 ≤ x ∧ x ≤ 9223372036854775807) (hy : -9223372036854775808 ≤ y ∧ y ≤ 9223372036854775807) : Int64.ofInt x < Int64.ofInt y ↔ x < y := by
  rw [Int64.lt_iff_toInt_lt, mL_toInt hx, mL_toInt hy]
/-- an index within -/
theorem mI_in {i : Int} {n : Nat} (hi : -2147483648 ≤ i ∧ i ≤ 2147483647) (h0 : 0 ≤ i) (hn : i < n) : vp_in (Int32.ofInt i) n := by
  intro h
  have ht := mI_toInt hi
  rcases h with h | h
  · have h2 : (Int32.ofInt i).toInt < 0 := Int32.lt_iff_toInt_lt.mp h
    omega
  · have h3 : ((Int32.ofInt i).toNatClampNeg : Nat) = i.toNat := by rw [← Int32.toNat_toInt, ht]
    omega
theorem mI_nat {i : Int} (hi : -2147483648 ≤ i ∧ i ≤ 2147483647) : (Int32.ofInt i).toNatClampNeg = i.toNat := by rw [← Int32.toNat_toInt, mI_toInt hi]
section MI
variable {K : mK} {Qr : MO → MH → Prop} {mc ms pc : Nat} {L : List (Nat × MV)} {S S' : List MV} {h : MH}
/-- an instruction that changes the stack alone -/
theorem m_st (pc' : Nat) (hok : mokL L → mokS S → mokS S') (hst : ∀ (ad : Nat → Nat) (p : Program) (l : Launch) (e : Env) (R : Room) (s : State) (m : MethodId) (args : Array Value) (below : List Frame) (meth : Method) (c : Code) (H : Heap) (locs : List Loc) (cells slots : Nat) (Q : State → Prop) (ls : Array Slot),
    p.tables.exec = Jvm.exec → c.code = K.2.2.1 → lv_has ls K.2.2.2.1 (mL ad L) → s.vm.findClass K.2.1 = some m.cls → (∀ w ∈ mTB, w.before args s = true) → mokL L → mokS S → W p l e R s m args below meth c H locs cells slots Q (F0 m pc' ls (mS ad S')) → W p l e R s m args below meth c H locs cells slots Q (F0 m pc ls (mS ad S)))
    (k : MW K Qr mc ms pc' L S' h) : MW K Qr mc ms pc L S h := by
  intro D x s0 p l e R s m args below meth c H locs cells slots MC MS Q ls C F P SS hl oL oS hc hs
  exact hst (mad x s0) p l e R s m args below meth c H locs cells slots Q ls C.1 C.2.1 hl C.2.2.2.2.1 C.2.2.2.2.2.1 oL oS (k D x s0 p l e R s m args below meth c H locs cells slots MC MS Q ls C F P SS hl oL (hok oL oS) hc hs)
theorem m_iadd (pc' : Nat) (hd : decode K.2.2.1 pc = .ok (.iadd, 1)) (hp : pc + 1 = pc') {x y : Int} (hr : -2147483648 ≤ x + y ∧ x + y ≤ 2147483647) (k : MW K Qr mc ms pc' L ((0, x + y) :: S) h) : MW K Qr mc ms pc L ((0, y) :: (0, x) :: S) h := by
  subst hp
  refine m_st _ (fun _ o => mokS_i hr (mokS_cons.mp (mokS_cons.mp o).2).2) (fun ad p l e R s m args below meth c H locs cells slots Q ls hx hb hl hown hts oL oS kk => lv_iadd hx hb hd ?_) k
  have kk : W p l e R s m args below meth c H locs cells slots Q (F0 m (pc + 1) ls (.int (Int32.ofInt (x + y)) :: mS ad S)) := kk
  rw [Int32.ofInt_add] at kk
  exact kk
end MI
