/-! the sites of these instructions -/
abbrev XR : Type := Nat × Nat × Nat × Nat × Nat
def XT : List XR := [(22, 21, 100, 203, 397), (22, 54, 81, 207, 0), (30, 3, 81, 207, 0), (32, 3, 81, 207, 0), (51, 16, 83, 28, 0), (56, 14, 82, 44, 0), (57, 15, 82, 44, 0), (83, 10, 80, 212, 0), (97, 12, 103, 228, 0), (97, 13, 104, 229, 0), (97, 14, 102, 1, 0), (98, 17, 84, 233, 0), (119, 127, 85, 219, 0), (181, 46, 84, 207, 0), (183, 15, 81, 213, 0), (185, 3, 81, 213, 0), (190, 10, 81, 213, 0), (191, 3, 80, 251, 0), (205, 49, 100, 55, 397), (216, 32, 101, 1, 0), (216, 36, 101, 1, 0), (216, 40, 101, 0, 0), (216, 44, 101, 0, 0), (217, 24, 82, 47, 0), (223, 11, 101, 0, 0), (227, 18, 80, 152, 0), (230, 2, 80, 152, 0), (258, 4, 86, 0, 0), (261, 16, 80, 152, 0), (269, 21, 83, 273, 0), (295, 14, 90, 2, 1), (295, 23, 96, 0, 0), (295, 24, 95, 0, 0), (295, 26, 93, 217, 13830554455654793216), (295, 27, 98, 0, 0), (295, 28, 90, 2, 1), (295, 35, 96, 0, 0), (295, 36, 95, 0, 0), (295, 44, 96, 0, 0), (295, 45, 98, 0, 0), (295, 53, 90, 2, 1), (295, 60, 96, 0, 0), (295, 61, 95, 1, 0), (295, 73, 96, 0, 0), (295, 74, 91, 6, 0), (295, 90, 96, 0, 0), (295, 91, 91, 8, 0), (295, 100, 96, 0, 0), (295, 101, 90, 8, 0), (295, 102, 90, 6, 0), (295, 103, 90, 2, 1), (295, 104, 94, 1, 0), (295, 105, 94, 2, 0), (295, 106, 90, 6, 0), (295, 113, 96, 0, 0), (295, 114, 94, 1, 0), (295, 115, 94, 3, 0), (295, 116, 94, 0, 0), (295, 117, 98, 0, 0), (296, 0, 92, 0, 0), (296, 1, 91, 1, 1), (296, 11, 96, 0, 0), (296, 12, 93, 219, 4696837146684686336), (296, 13, 94, 3, 0), (296, 14, 91, 4, 0), (296, 15, 90, 1, 1), (296, 16, 90, 4, 0), (296, 17, 90, 4, 0), (296, 18, 94, 2, 0), (296, 19, 94, 0, 0), (296, 20, 91, 1, 1), (296, 34, 96, 0, 0), (296, 35, 93, 219, 4696837146684686336), (296, 36, 94, 3, 0), (296, 37, 91, 4, 0), (296, 38, 90, 1, 1), (296, 39, 93, 221, 4602678819172646912), (296, 40, 90, 4, 0), (296, 41, 90, 4, 0), (296, 42, 94, 2, 0), (296, 43, 94, 2, 0), (296, 44, 94, 0, 0), (296, 45, 91, 1, 1), (296, 48, 90, 1, 1), (296, 49, 98, 0, 0), (297, 0, 90, 1, 1), (297, 1, 92, 0, 0), (297, 2, 95, 0, 0), (297, 4, 90, 1, 1), (297, 5, 90, 3, 1), (297, 6, 95, 1, 0), (297, 8, 90, 3, 1), (297, 9, 93, 219, 4696837146684686336), (297, 10, 95, 1, 0), (297, 21, 90, 1, 1), (297, 29, 96, 0, 0), (297, 30, 94, 3, 0), (297, 31, 91, 6, 0), (297, 32, 90, 1, 1), (297, 33, 91, 8, 0), (297, 44, 90, 8, 0), (297, 45, 90, 8, 0), (297, 46, 90, 6, 0), (297, 47, 94, 2, 0), (297, 48, 94, 0, 0), (297, 49, 91, 8, 0), (297, 52, 90, 8, 0), (297, 53, 90, 3, 1), (297, 54, 95, 0, 0), (298, 8, 93, 217, 13830554455654793216), (298, 9, 98, 0, 0), (298, 14, 96, 0, 0), (298, 15, 94, 3, 0), (298, 16, 91, 2, 1), (298, 19, 91, 4, 0), (298, 28, 90, 4, 0), (298, 29, 90, 4, 0), (298, 30, 90, 2, 1), (298, 31, 94, 2, 0), (298, 32, 94, 0, 0), (298, 33, 91, 4, 0), (298, 36, 90, 4, 0), (298, 37, 98, 0, 0), (301, 6, 80, 155, 0), (313, 65, 100, 206, 397), (322, 34, 83, 270, 0), (336, 8, 80, 155, 0), (336, 49, 80, 155, 0), (368, 38, 102, 0, 0), (378, 22, 100, 220, 397), (380, 180, 100, 220, 397), (385, 3, 90, 2, 1), (385, 5, 98, 0, 0), (386, 2, 90, 1, 1), (386, 3, 90, 3, 1), (387, 4, 98, 0, 0), (388, 80, 85, 121, 0), (391, 9, 101, 1, 0), (725, 8, 93, 176, 13830554455654793216), (725, 9, 98, 0, 0), (725, 21, 90, 2, 1), (725, 26, 97, 0, 0), (725, 27, 95, 0, 0), (725, 29, 93, 176, 13830554455654793216), (725, 30, 98, 0, 0), (725, 35, 90, 2, 1), (725, 40, 97, 0, 0), (725, 41, 95, 0, 0), (725, 47, 97, 0, 0), (725, 48, 98, 0, 0), (725, 53, 90, 2, 1), (725, 58, 97, 0, 0), (725, 59, 95, 0, 0), (725, 63, 90, 2, 1), (725, 68, 97, 0, 0), (725, 69, 95, 0, 0), (725, 91, 97, 0, 0), (725, 92, 91, 7, 0), (725, 97, 97, 0, 0), (725, 98, 90, 7, 0), (725, 103, 97, 0, 0), (725, 104, 90, 2, 1), (725, 105, 94, 1, 0), (725, 106, 94, 2, 0), (725, 118, 97, 0, 0), (725, 119, 94, 3, 0), (725, 120, 94, 0, 0), (725, 121, 98, 0, 0), (726, 0, 92, 0, 0), (726, 1, 91, 1, 1), (726, 11, 96, 0, 0), (726, 12, 93, 178, 4696837146684686336), (726, 13, 94, 3, 0), (726, 14, 91, 4, 0), (726, 15, 90, 1, 1), (726, 16, 90, 4, 0), (726, 17, 90, 4, 0), (726, 18, 94, 2, 0), (726, 19, 94, 0, 0), (726, 20, 91, 1, 1), (726, 40, 96, 0, 0), (726, 41, 93, 178, 4696837146684686336), (726, 42, 94, 3, 0), (726, 43, 91, 4, 0), (726, 44, 90, 1, 1), (726, 45, 93, 180, 4602678819172646912), (726, 46, 90, 4, 0), (726, 47, 90, 4, 0), (726, 48, 94, 2, 0), (726, 49, 94, 2, 0), (726, 50, 94, 0, 0), (726, 51, 91, 1, 1), (726, 54, 90, 1, 1), (726, 55, 98, 0, 0), (727, 0, 90, 0, 1), (727, 1, 91, 5, 0), (727, 7, 90, 5, 0), (727, 8, 90, 2, 1), (727, 10, 96, 0, 0), (727, 11, 94, 3, 0), (727, 12, 94, 2, 0), (727, 13, 91, 8, 0), (727, 14, 90, 5, 0), (727, 15, 90, 8, 0), (727, 16, 94, 0, 0), (727, 17, 91, 5, 0), (727, 20, 90, 5, 0), (727, 21, 98, 0, 0), (728, 0, 90, 1, 1), (728, 1, 92, 0, 0), (728, 2, 95, 0, 0), (728, 4, 90, 1, 1), (728, 5, 90, 3, 1), (728, 6, 95, 1, 0), (728, 8, 90, 3, 1), (728, 9, 93, 178, 4696837146684686336), (728, 10, 95, 1, 0), (728, 27, 90, 1, 1), (728, 34, 91, 7, 0), (728, 35, 90, 1, 1), (728, 36, 91, 9, 0), (728, 42, 90, 9, 0), (728, 43, 90, 7, 0), (728, 46, 91, 9, 0), (728, 47, 90, 9, 0), (728, 48, 90, 3, 1), (728, 49, 95, 0, 0), (729, 8, 93, 176, 13830554455654793216), (729, 9, 98, 0, 0), (729, 12, 91, 2, 1), (729, 15, 91, 4, 0), (729, 21, 90, 4, 0), (729, 22, 90, 2, 1), (729, 26, 91, 4, 0), (729, 29, 90, 4, 0), (729, 30, 98, 0, 0), (800, 6, 90, 2, 1), (800, 8, 98, 0, 0), (801, 5, 90, 1, 1), (801, 6, 90, 3, 1), (802, 7, 98, 0, 0)]
def XW : List (Nat × Nat × Nat) := [(80, 2, 212), (80, 4, 251), (80, 7, 152), (80, 9, 155), (81, 0, 207), (81, 4, 213), (82, 1, 44), (82, 6, 47), (83, 1, 28), (83, 7, 273), (83, 9, 270), (84, 2, 233), (84, 4, 207), (85, 3, 219), (85, 11, 121), (103, 2, 228)]
def XCn : List (Nat × Nat × Nat) := [(8, 217, 13830554455654793216), (8, 219, 4696837146684686336), (8, 221, 4602678819172646912), (18, 176, 13830554455654793216), (18, 178, 4696837146684686336), (18, 180, 4602678819172646912)]
def yX (c : Nat) : MethodName := match c with
  | 80 => yJ7_fill_53178
  | 81 => yJ7_fill_d0a16
  | 82 => yJ7_fill_fda19
  | 83 => arraycopyName
  | 84 => arraycopyName
  | 85 => yJ9_floorDiv_f86c9
  | 103 => ⟨"[J", "clone", "()Ljava/lang/Object;"⟩
  | _ => arraycopyName
theorem XW_ok : ∀ q ∈ XW, Cond.methodLink (mcn q.2.1) q.2.2 (yX q.1) ∈ mTB := List.forall_mem_cons.mpr ⟨lmX2_212, List.forall_mem_cons.mpr ⟨lmX4_251, List.forall_mem_cons.mpr ⟨lmX7_152, List.forall_mem_cons.mpr ⟨lmX9_155, List.forall_mem_cons.mpr ⟨lmX0_207, List.forall_mem_cons.mpr ⟨lmX4_213, List.forall_mem_cons.mpr ⟨lmX1_44, List.forall_mem_cons.mpr ⟨lmX6_47, List.forall_mem_cons.mpr ⟨lmX1_28, List.forall_mem_cons.mpr ⟨lmX7_273, List.forall_mem_cons.mpr ⟨lmX9_270, List.forall_mem_cons.mpr ⟨lmX2_233, List.forall_mem_cons.mpr ⟨lmX4_207, List.forall_mem_cons.mpr ⟨lmX3_219, List.forall_mem_cons.mpr ⟨lmX11_121, List.forall_mem_cons.mpr ⟨lmX2_228, fun _ h => absurd h List.not_mem_nil⟩⟩⟩⟩⟩⟩⟩⟩⟩⟩⟩⟩⟩⟩⟩⟩
theorem XCn_ok : ∀ q ∈ XCn, Cond.constantDouble (mcn q.1) q.2.1 (UInt64.ofNat q.2.2) ∈ mTB := List.forall_mem_cons.mpr ⟨lcX8_217, List.forall_mem_cons.mpr ⟨lcX8_219, List.forall_mem_cons.mpr ⟨lcX8_221, List.forall_mem_cons.mpr ⟨lcX18_176, List.forall_mem_cons.mpr ⟨lcX18_178, List.forall_mem_cons.mpr ⟨lcX18_180, fun _ h => absurd h List.not_mem_nil⟩⟩⟩⟩⟩⟩
def XN : List (Nat × Nat × Nat) := [(0, 203, 397), (5, 55, 397), (9, 206, 397), (10, 220, 397)]
theorem XN_ok : ∀ q ∈ XN, ∃ r host, mtab[q.2.2]? = some r ∧ (mcn q.1, q.2.1, r.2.1, host) ∈ mNL := List.forall_mem_cons.mpr ⟨⟨_, _, rfl, List.mem_of_getElem? (i := 5) rfl⟩, List.forall_mem_cons.mpr ⟨⟨_, _, rfl, List.mem_of_getElem? (i := 6) rfl⟩, List.forall_mem_cons.mpr ⟨⟨_, _, rfl, List.mem_of_getElem? (i := 7) rfl⟩, List.forall_mem_cons.mpr ⟨⟨_, _, rfl, List.mem_of_getElem? (i := 8) rfl⟩, fun _ h => absurd h List.not_mem_nil⟩⟩⟩⟩
def in3 (a b c : Nat) : List (Nat × Nat × Nat) → Bool
  | [] => false
  | q :: r => (Nat.beq q.1 a && (Nat.beq q.2.1 b && Nat.beq q.2.2 c)) || in3 a b c r
theorem in3_of {a b c : Nat} : ∀ {l : List (Nat × Nat × Nat)}, in3 a b c l = true → (a, b, c) ∈ l
  | [], h => by cases h
  | q :: r, h => by
    have h : ((Nat.beq q.1 a && (Nat.beq q.2.1 b && Nat.beq q.2.2 c)) || in3 a b c r) = true := h
    rw [Bool.or_eq_true] at h
    rcases h with h | h
    · obtain ⟨h1, h2⟩ := andB h
      obtain ⟨h2, h3⟩ := andB h2
      obtain ⟨q1, q2, q3⟩ := q
      have h1 : q1 = a := beqN h1
      have h2 : q2 = b := beqN h2
      have h3 : q3 = c := beqN h3
      rw [h1, h2, h3]
      exact List.mem_cons_self
    · exact List.mem_cons_of_mem _ (in3_of h)
def kX (c : Nat) : mK := match c with
  | 80 => kFI
  | 81 => kFL
  | 82 => kFR
  | _ => kFD
def dopI (a : Nat) : Instr := match a with
  | 0 => .dadd
  | 1 => .dsub
  | 2 => .dmul
  | _ => .ddiv
def cmpO (a : Nat) : CmpOp := match a with
  | 0 => .l
  | _ => .g
def okX (q : XR) : Bool :=
  let m := q.1
  let K := kT m
  let P := pgT m
  let pc := pcA P q.2.1
  let nx := pcA P (q.2.1 + 1)
  let a := q.2.2.2.1
  let b := q.2.2.2.2
  Nat.blt m 821 && (match q.2.2.1 with
  | 80 => okT K pc (.invokestatic a) 3 && (Nat.beq (pc + 3) nx && (fitB K kFI && in3 80 (ownT m) a XW))
  | 81 => okT K pc (.invokestatic a) 3 && (Nat.beq (pc + 3) nx && (fitB K kFL && in3 81 (ownT m) a XW))
  | 82 => okT K pc (.invokestatic a) 3 && (Nat.beq (pc + 3) nx && (fitB K kFR && in3 82 (ownT m) a XW))
  | 85 => okT K pc (.invokestatic a) 3 && (Nat.beq (pc + 3) nx && (fitB K kFD && in3 85 (ownT m) a XW))
  | 83 => okT K pc (.invokestatic a) 3 && (Nat.beq (pc + 3) nx && (Nat.ble 1 K.2.2.2.2.2.1 && (Nat.ble 26 K.2.2.2.2.2.2 && in3 83 (ownT m) a XW)))
  | 84 => okT K pc (.invokestatic a) 3 && (Nat.beq (pc + 3) nx && (Nat.ble 1 K.2.2.2.2.2.1 && (Nat.ble 26 K.2.2.2.2.2.2 && in3 84 (ownT m) a XW)))
  | 86 => okT K pc .lushr 1 && Nat.beq (pc + 1) nx
  | 90 => bif Nat.beq b 0 then okT K pc (.dload a) 2 && Nat.beq (pc + 2) nx else Nat.blt a 4 && (okT K pc (.dload_n (fin4 a)) 1 && Nat.beq (pc + 1) nx)
  | 91 => Nat.blt (a + 1) K.2.2.2.1 && (bif Nat.beq b 0 then okT K pc (.dstore a) 2 && Nat.beq (pc + 2) nx else Nat.blt a 4 && (okT K pc (.dstore_n (fin4 a)) 1 && Nat.beq (pc + 1) nx))
  | 92 => okT K pc (.dconst 0) 1 && Nat.beq (pc + 1) nx
  | 93 => okT K pc (.ldc2_w a) 3 && (Nat.beq (pc + 3) nx && in3 (ownT m) a b XCn)
  | 94 => Nat.beq K.1 1 && (Nat.beq (pc + 1) nx && okT K pc (dopI a) 1)
  | 95 => Nat.beq (pc + 1) nx && okT K pc (.dcmp (cmpO a)) 1
  | 96 => Nat.beq (pc + 1) nx && okT K pc .i2d 1
  | 97 => Nat.beq (pc + 1) nx && okT K pc .l2d 1
  | 98 => okT K pc .dreturn 1 && decide (K.2.2.2.2.1 = some .double)
  | 101 => Nat.beq (pc + 2) nx && okT K pc (.newarray (bif Nat.beq a 0 then .int else .long)) 2
  | 102 => Nat.beq (pc + 1) nx && (Nat.ble a 1 && okT K pc .aastore 1)
  | 103 => okT K pc (.invokevirtual a) 3 && (Nat.beq (pc + 3) nx && (Nat.ble 1 K.2.2.2.2.2.1 && (Nat.ble 26 K.2.2.2.2.2.2 && in3 103 (ownT m) a XW)))
  | 104 => okT K pc (.checkcast a) 3 && (Nat.beq (pc + 3) nx && (Nat.beq (ownT m) 2 && Nat.beq a 229))
  | 100 => okT K pc (.invokestatic a) 3 && (Nat.beq (pc + 3) nx && in3 (ownT m) a b XN)
  | _ => false)
set_option maxRecDepth 1000000 in
set_option maxHeartbeats 100000000 in
theorem XT_ok : XT.all okX = true := by decide +kernel
def xfind (m i : Nat) : List XR → Option (Nat × Nat × Nat)
  | [] => none
  | q :: r => bif Nat.beq q.1 m && Nat.beq q.2.1 i then some q.2.2 else xfind m i r
theorem xfind_of {m i : Nat} {e : Nat × Nat × Nat} : ∀ {l : List XR}, xfind m i l = some e → (m, i, e) ∈ l
  | [], h => by cases h
  | q :: r, h => by
    have h : (bif Nat.beq q.1 m && Nat.beq q.2.1 i then some q.2.2 else xfind m i r) = some e := h
    cases w : (Nat.beq q.1 m && Nat.beq q.2.1 i) with
    | true =>
      rw [w] at h
      cases h
      obtain ⟨h1, h2⟩ := andB w
      obtain ⟨q1, q2, q3⟩ := q
      have h1 : q1 = m := beqN h1
      have h2 : q2 = i := beqN h2
      rw [h1, h2]
      exact List.mem_cons_self
    | false =>
      rw [w] at h
      exact List.mem_cons_of_mem _ (xfind_of h)
theorem kT_cls {m : Nat} (hm : m < 821) : (kT m).2.1 = mcn (ownT m) := by
  have ok := pgT_ok0 m hm
  unfold okP at ok
  exact of_decide_eq_true (and2 ok).2
theorem XW_at {m c a : Nat} (hm : m < 821) (h : in3 c (ownT m) a XW = true) : Cond.methodLink (kT m).2.1 a (yX c) ∈ mTB := by
  rw [kT_cls hm]
  exact XW_ok _ (in3_of h)
/-- a fill: 0 int[] whole, 1 long[] whole, 2 from, to -/
def xFil (G : ZG) (T : ZTab) (M : List ZR) (lo n c : Nat) (s : ZSt) (k : List Nat) : Option (ZSt × List Nat) := match s.2.1 with
  | v :: r :: rest => bif Nat.blt c 2 && (Nat.beq v.1 c && (Nat.beq r.1 2 && Nat.ble (zcats rest) 8)) then (match zcl T s.2.2.1 s.2.2.2.2.1 c r.2 k with
    | some (p, k) => (match rdC k with
      | (d, k) => bif Nat.ble 4 p.2.1 && zcert s.2.2.1 d (zsb (zc 2147483646) p.1) then xBlk G T M lo n 0 s p.2.1 p.2.2 r.2 (zc 0) p.1 v.2 (zc 0) rest k else none)
    | none => none) else none
  | _ => none
def xFilR (G : ZG) (T : ZTab) (M : List ZR) (lo n : Nat) (s : ZSt) (k : List Nat) : Option (ZSt × List Nat) := match s.2.1 with
  | v :: b :: a :: r :: rest => bif Nat.beq v.1 0 && (Nat.beq b.1 0 && (Nat.beq a.1 0 && (Nat.beq r.1 2 && Nat.ble (zcats rest) 8))) then (match zcl T s.2.2.1 s.2.2.2.2.1 0 r.2 k with
    | some (p, k) => (match rdCs 4 k with
      | (cs, k) => bif Nat.ble 4 p.2.1 && zcerts s.2.2.1 cs [a.2, zsb b.2 a.2, zsb p.1 b.2, zsb (zc 2147483646) p.1] then xBlk G T M lo n 0 s p.2.1 p.2.2 r.2 a.2 b.2 v.2 (zc 0) rest k else none)
    | none => none) else none
  | _ => none
/-- System.arraycopy between two rows of a kind -/
def xCpy (G : ZG) (T : ZTab) (M : List ZR) (lo n kd : Nat) (s : ZSt) (k : List Nat) : Option (ZSt × List Nat) := match s.2.1 with
  | c :: d :: b :: e :: a :: rest => bif Nat.beq c.1 0 && (Nat.beq d.1 0 && (Nat.beq b.1 2 && (Nat.beq e.1 0 && (Nat.beq a.1 2 && Nat.ble (zcats rest) 8)))) then (match zcl T s.2.2.1 s.2.2.2.2.1 kd a.2 k with
    | some (p, k) => (match zcl T s.2.2.1 s.2.2.2.2.1 kd b.2 k with
      | some (q, k) => (match rdCs 7 k with
        | (cs, k) => bif Nat.ble 4 p.2.1 && (Nat.ble 4 q.2.1 && zcerts s.2.2.1 cs [e.2, d.2, c.2, zsb (zsb p.1 e.2) c.2, zsb (zsb q.1 d.2) c.2, zsb (zc 2147483646) p.1, zsb (zc 2147483646) q.1]) then xBlk G T M lo n 1 s q.2.1 q.2.2 b.2 d.2 (zadd d.2 c.2) a.2 (zsb e.2 d.2) rest k else none)
      | none => none)
    | none => none) else none
  | _ => none
def zpre : List Nat → ZSs → Option ZSs
  | [], S => some S
  | t :: ts, v :: S => bif Nat.beq v.1 t then zpre ts S else none
  | _ :: _, [] => none
theorem zpre1 {t : Nat} {S rest : ZSs} (h : zpre [t] S = some rest) : ∃ x, S = (t, x) :: rest := by
  match S, h with
  | [], h => cases h
  | v :: S, h =>
    have h : (bif Nat.beq v.1 t then some S else none) = some rest := h
    cases e : Nat.beq v.1 t with
    | false => rw [e] at h; cases h
    | true => rw [e] at h; cases h; exact ⟨v.2, by rw [← beqN e]⟩
theorem zpre2 {t u : Nat} {S rest : ZSs} (h : zpre [t, u] S = some rest) : ∃ y x, S = (t, y) :: (u, x) :: rest := by
  match S, h with
  | [], h => cases h
  | v :: S, h =>
    have h : (bif Nat.beq v.1 t then zpre [u] S else none) = some rest := h
    cases e : Nat.beq v.1 t with
    | false => rw [e] at h; cases h
    | true =>
      rw [e] at h
      obtain ⟨x, rfl⟩ := zpre1 h
      exact ⟨v.2, x, by rw [← beqN e]⟩
theorem zpre_mem : ∀ {ts : List Nat} {S rest : ZSs}, zpre ts S = some rest → ∀ q ∈ rest, q ∈ S
  | [], S, rest, h, q, hq => by cases h; exact hq
  | t :: ts, [], rest, h, q, hq => by cases h
  | t :: ts, v :: S, rest, h, q, hq => by
    have h : (bif Nat.beq v.1 t then zpre ts S else none) = some rest := h
    cases e : Nat.beq v.1 t with
    | false => rw [e] at h; cases h
    | true => rw [e] at h; exact List.mem_cons_of_mem _ (zpre_mem h q hq)
/-- a fresh value in the place of some -/
def xNew (lo tag : Nat) (ts : List Nat) (fs : ZT → List ZT) (s : ZSt) (k : List Nat) : Option (ZSt × List Nat) := match k with
  | n :: k => (match zpre ts s.2.1 with
    | some rest => (match zfresh lo s rest tag n (zx n) (fs (zx n)) [] with
      | some s' => some (s', k)
      | none => none)
    | none => none)
  | [] => none
theorem xNew_of {G : ZG} {lo tag : Nat} {ρ : Nat → Int} {h : MH} {s s' : ZSt} {ts : List Nat} {fs : ZT → List ZT} {k k' : List Nat} (B : Kn G ρ h s.2.2) (e : xNew lo tag ts fs s k = some (s', k')) : ∃ rest, zpre ts s.2.1 = some rest ∧ ∀ z : Int, (∀ (ρ' : Nat → Int) (t : ZT), zv ρ' t = z → (∀ q ∈ s.2.1, zv ρ' q.2 = zv ρ q.2) → ∀ f ∈ fs t, 0 ≤ zv ρ' f) → VOk G lo ρ h s s' rest tag z := by
  unfold xNew at e
  split at e
  · next n k1 =>
    split at e
    · next rest hr =>
      split at e
      · next s1 e1 =>
        cases e
        exact ⟨rest, hr, fun z hz => zfresh_of B (zpre_mem hr) e1 z z fun hs => ⟨zxu _ _ _, hz _ _ (zxu _ _ _) hs, noD⟩⟩
      · cases e
    · cases e
  · cases e
/-- an array becomes an element of an array of arrays -/
def xAas (G : ZG) (T : ZTab) (M : List ZR) (lo n kd : Nat) (s : ZSt) (k : List Nat) : Option (ZSt × List Nat) := match s.2.1 with
  | v :: b :: r :: rest => bif Nat.beq v.1 2 && (Nat.beq b.1 0 && (Nat.beq r.1 2 && Nat.ble (zcats rest) 8)) then (match zcl T s.2.2.1 s.2.2.2.2.1 (6 + kd) r.2 k with
    | some (p, k) => (match zcl T s.2.2.1 s.2.2.2.2.1 kd v.2 k with
      | some (q, k) => (match rdCs 3 k with
        | (cs, k) => bif Nat.ble 4 p.2.1 && (Nat.ble 4 q.2.1 && (Nat.beq p.2.1 p.2.2 && (Nat.beq (T.2.2.2.2 p.2.1).2 0 && zcerts s.2.2.1 cs [b.2, zpl (zsb p.1 b.2) (-1), zsb (zc 2147483646) p.1]))) then xBlk G T M lo n 0 s p.2.1 p.2.2 r.2 b.2 (zpl b.2 1) v.2 (zc 0) rest k else none)
      | none => none)
    | none => none) else none
  | _ => none
/-- a row of longs, copied whole -/
def xCln (G : ZG) (T : ZTab) (M : List ZR) (lo n : Nat) (s : ZSt) (k : List Nat) : Option (ZSt × List Nat) := match s.2.1 with
  | r :: rest => (match r.2.1 with
    | .ofNat c => bif Nat.beq r.1 2 && (zleq r.2.2 [] && (Nat.ble 4 c && (Nat.blt c T.1 && Nat.beq (T.2.1 c) 1))) then (match xMk G T M lo n 1 (s.1, (0, zc (Int.ofNat (T.2.2.1 c))) :: rest, s.2.2) k with
      | some (s2, k2) => (match s2.2.1 with
        | q :: rest2 => (match xCpy G T M lo n 1 (s2.1, (0, zc (Int.ofNat (T.2.2.1 c))) :: (0, zc 0) :: q :: (0, zc 0) :: r :: rest2, s2.2.2) k2 with
          | some (s4, k4) => some ((s4.1, q :: s4.2.1, s4.2.2), k4)
          | none => none)
        | [] => none)
      | none => none) else none
    | .negSucc _ => none)
  | [] => none
def xCst (T : ZTab) (s : ZSt) (k : List Nat) : Option (ZSt × List Nat) := match s.2.1 with
  | r :: _ => bif Nat.beq r.1 2 then (match zcl T s.2.2.1 s.2.2.2.2.1 1 r.2 k with
    | some (p, k) => bif Nat.ble 4 p.2.1 then some (s, k) else none
    | none => none) else none
  | [] => none
def xExt (G : ZG) (T : ZTab) (M : List ZR) (CT : Nat → Option ZCt) (m lo n i : Nat) (s : ZSt) (k : List Nat) : ZO := match xfind m i XT with
  | some (c, a, b) => (match c with
    | 80 => one' i (xFil G T M lo n 0 s k)
    | 81 => one' i (xFil G T M lo n 1 s k)
    | 82 => one' i (xFilR G T M lo n s k)
    | 83 => one' i (xCpy G T M lo n 0 s k)
    | 84 => one' i (xCpy G T M lo n 1 s k)
    | 85 => (match s.2.1 with
      | y :: _ :: rest => (match rdC k with
        | (d, k) => bif zcert s.2.2.1 d (zpl y.2 (-1)) && Nat.ble (zcats rest) 8 then one' i (xNew lo 1 [1, 1] (rngF 1) s k) else none)
      | _ => none)
    | 86 => (match s.2.1 with
      | y :: _ :: _ => one' i (xNew lo 1 [0, 1] (fun t => bif zeq y.2 (zc 54) then [t, zsb (zc 1023) t] else rngF 1 t) s k)
      | _ => none)
    | 90 => (match zlk s.1 a with
      | some v => bif Nat.beq v.1 3 then some ([(i + 1, (s.1, v :: s.2.1, s.2.2))], k) else none
      | none => none)
    | 91 => (match s.2.1 with
      | v :: rest => bif Nat.beq v.1 3 then some ([(i + 1, (zput2 s.1 a v, rest, s.2.2))], k) else none
      | [] => none)
    | 92 => one' i (xNew lo 3 [] (fun _ => []) s k)
    | 93 => one' i (xNew lo 3 [] (fun _ => []) s k)
    | 94 => one' i (xNew lo 3 [3, 3] (fun _ => []) s k)
    | 95 => one' i (xNew lo 0 [3, 3] (fun t => [zpl t 1, zsb (zc 1) t]) s k)
    | 96 => one' i (xNew lo 3 [0] (fun _ => []) s k)
    | 97 => one' i (xNew lo 3 [1] (fun _ => []) s k)
    | 101 => bif Nat.ble a 1 then one' i (xMk G T M lo n a s k) else none
    | 102 => bif Nat.ble a 1 then one' i (xAas G T M lo n a s k) else none
    | 103 => one' i (xCln G T M lo n s k)
    | 104 => one' i (xCst T s k)
    | 100 => (match k with
      | j :: k => (match CT j, mtab[b]? with
        | some d, some q => bif Nat.beq d.1 b && (fitB (kT m) q.1 && Nat.beq q.2.2.2.2 1) then (match zspl q.2.2.2.1 s.2.1 with
          | some (as, rest) => bif Nat.ble (zcats rest) 8 then xCon G T M lo i d s as rest k else none
          | none => none) else none
        | _, _ => none)
      | [] => none)
    | _ => none)
  | none => none
theorem ushr54 (x : Int64) : 0 ≤ (x.toUInt64 >>> ((Int32.ofInt 54).toInt64.toUInt64 &&& Int64.toUInt64 63)).toInt64.toInt ∧ (x.toUInt64 >>> ((Int32.ofInt 54).toInt64.toUInt64 &&& Int64.toUInt64 63)).toInt64.toInt ≤ 1023 := by
  have e : ((Int32.ofInt 54).toInt64.toUInt64 &&& Int64.toUInt64 63) = 54 := by decide +kernel
  rw [e]
  have h1 : (x.toUInt64 >>> 54).toNat ≤ 1023 := by
    rw [UInt64.toNat_shiftRight]
    have := x.toUInt64.toNat_lt
    show x.toUInt64.toNat >>> 54 ≤ 1023
    rw [Nat.shiftRight_eq_div_pow]
    show x.toUInt64.toNat / 18014398509481984 ≤ 1023
    omega
  have h2 : (x.toUInt64 >>> 54).toInt64.toInt = ((x.toUInt64 >>> 54).toNat : Int) := by
    show (x.toUInt64 >>> 54).toBitVec.toInt = _
    rw [BitVec.toInt_eq_toNat_of_lt]
    · rfl
    · show 2 * (x.toUInt64 >>> 54).toNat < _
      omega
  omega
def zbx (CT : Nat → Option ZCt) (m i : Nat) (k : List Nat) : Nat × Nat := match xfind m i XT with
  | some (100, _, _) => zbc CT k
  | some (101, _, _) => (match k with
    | p :: _ => (1, p)
    | [] => (0, 0))
  | some (103, _, _) => (match k with
    | p :: _ => (1, p)
    | [] => (0, 0))
  | _ => (0, 0)
theorem pe {v : Nat × ZT} {t : Nat} (h : Nat.beq v.1 t = true) : v = (t, v.2) := Prod.ext (beqN h) rfl
theorem ce {v w : Nat × ZT} {l l' : ZSs} (h : v = w) (h' : l = l') : v :: l = w :: l' := by rw [h, h']
section EX
variable {G : ZG} {T : ZTab} {M : List ZR} {Q : MO → MH → Prop} {h0 : MH} {mc ms m lo n i c : Nat} {s s' : ZSt} {ρ : Nat → Int} {h : MH} {ss : List (Nat × ZSt)} {k k' : List Nat} {CT : Nat → Option ZCt}
theorem xFil_of (gk : GOk G) (tk : TabOk T) (hc : c < 2) (I : Inv G T M h0 ρ h s) (e : xFil G T M lo n c s k = some (s', k')) : ∃ v r rest, s.2.1 = (c, v) :: (2, r) :: rest ∧ zcats rest ≤ 8 ∧ 0 ≤ zv ρ r ∧ 4 ≤ (zv ρ r).toNat ∧ (zv ρ r).toNat < h.1 ∧ (h.2 (zv ρ r).toNat).1 = c ∧ (h.2 (zv ρ r).toNat).2.1 ≤ 2147483646 ∧ Inv G T M h0 ρ (hfill h (zv ρ r).toNat 0 (h.2 (zv ρ r).toNat).2.1 (zv ρ v)) s' ∧ s'.1 = s.1 ∧ s'.2.1 = rest := by
  unfold xFil at e
  split at e
  · next v r rest hS =>
    cases e0 : (Nat.blt c 2 && (Nat.beq v.1 c && (Nat.beq r.1 2 && Nat.ble (zcats rest) 8))) with
    | false => rw [e0] at e; cases e
    | true =>
      rw [e0, cond_true] at e
      obtain ⟨_, b1⟩ := andB e0
      obtain ⟨b1, b2⟩ := andB b1
      obtain ⟨b2, b3⟩ := andB b2
      split at e
      · next p k1 e1 =>
        split at e
        next d k2 e3 =>
        cases e2 : (Nat.ble 4 p.2.1 && zcert s.2.2.1 d (zsb (zc 2147483646) p.1)) with
        | false => rw [e2] at e; cases e
        | true =>
          rw [e2, cond_true] at e
          obtain ⟨c1, c2⟩ := andB e2
          have c1 := bleN c1
          have c2 := zcert_of I.1.1 c2
          rw [zsb_v, zc_v] at c2
          obtain ⟨a1, a2, a3, a4, a5, a6, a7, a8, a9⟩ := zcl_of tk I.1.1 I.1.2.2.1 I.2.1 e1
          have a4 := a4 (by omega)
          have hw : BlkW h (hblk h (zv ρ r.2).toNat fun q => if 0 ≤ q ∧ q < (h.2 (zv ρ r.2).toNat).2.1 then zv ρ v.2 else (h.2 (zv ρ r.2).toNat).2.2 q) (zv ρ r.2) (zv ρ (zc 0)) (zv ρ p.1) (fB 0 h ρ v.2 (zc 0)) := fun r' i' => by
            have := gz_fill (h := h) (v := zv ρ v.2) (b := ((h.2 (zv ρ r.2).toNat).2.1 : Int)) a1 (Int.le_refl 0) (by omega) r' i'
            rw [zc_v, ← a4]
            exact this
          obtain ⟨w1, w2, w3, w4⟩ := xBlk_of gk I.1 I.2.1 hw a5 a6 (by rw [zc_v]; exact Int.le_refl 0) (by omega) e
          refine ⟨v.2, r.2, rest, ?_, bleN b3, a1, by omega, a2, a3, by omega, ⟨w1, I.2.1.blk (a8 (by omega)), I.2.2.trans w4⟩, w2, w3⟩
          rw [hS, ← beqN b1, ← beqN b2]
      · cases e
  · cases e
theorem xFilR_of (gk : GOk G) (tk : TabOk T) (I : Inv G T M h0 ρ h s) (e : xFilR G T M lo n s k = some (s', k')) : ∃ v b a r rest, s.2.1 = (0, v) :: (0, b) :: (0, a) :: (2, r) :: rest ∧ zcats rest ≤ 8 ∧ 0 ≤ zv ρ r ∧ 4 ≤ (zv ρ r).toNat ∧ (zv ρ r).toNat < h.1 ∧ (h.2 (zv ρ r).toNat).1 = 0 ∧ (h.2 (zv ρ r).toNat).2.1 ≤ 2147483646 ∧ 0 ≤ zv ρ a ∧ zv ρ a ≤ zv ρ b ∧ zv ρ b ≤ ((h.2 (zv ρ r).toNat).2.1 : Int) ∧ Inv G T M h0 ρ (hfill h (zv ρ r).toNat (zv ρ a).toNat (zv ρ b).toNat (zv ρ v)) s' ∧ s'.1 = s.1 ∧ s'.2.1 = rest := by
  unfold xFilR at e
  split at e
  · next v b a r rest hS =>
    cases e0 : (Nat.beq v.1 0 && (Nat.beq b.1 0 && (Nat.beq a.1 0 && (Nat.beq r.1 2 && Nat.ble (zcats rest) 8)))) with
    | false => rw [e0] at e; cases e
    | true =>
      rw [e0, cond_true] at e
      obtain ⟨b1, b2⟩ := andB e0
      obtain ⟨b2, b3⟩ := andB b2
      obtain ⟨b3, b4⟩ := andB b3
      obtain ⟨b4, b5⟩ := andB b4
      split at e
      · next p k1 e1 =>
        split at e
        next cs k2 e3 =>
        cases e2 : (Nat.ble 4 p.2.1 && zcerts s.2.2.1 cs [a.2, zsb b.2 a.2, zsb p.1 b.2, zsb (zc 2147483646) p.1]) with
        | false => rw [e2] at e; cases e
        | true =>
          rw [e2, cond_true] at e
          obtain ⟨c1, c3⟩ := andB e2
          have c1 := bleN c1
          have c3 := zcerts_of I.1.1 c3
          have g1 := c3 a.2 (by simp)
          have g2 := c3 (zsb b.2 a.2) (by simp)
          have g3 := c3 (zsb p.1 b.2) (by simp)
          have g4 := c3 (zsb (zc 2147483646) p.1) (by simp)
          rw [zsb_v] at g2 g3
          rw [zsb_v, zc_v] at g4
          obtain ⟨a1, a2, a3, a4, a5, a6, a7, a8, a9⟩ := zcl_of tk I.1.1 I.1.2.2.1 I.2.1 e1
          have a4 := a4 (by decide)
          have hw : BlkW h (hblk h (zv ρ r.2).toNat fun q => if (zv ρ a.2).toNat ≤ q ∧ q < (zv ρ b.2).toNat then zv ρ v.2 else (h.2 (zv ρ r.2).toNat).2.2 q) (zv ρ r.2) (zv ρ a.2) (zv ρ b.2) (fB 0 h ρ v.2 (zc 0)) := fun r' i' => gz_fill a1 g1 (by omega) r' i'
          obtain ⟨w1, w2, w3, w4⟩ := xBlk_of gk I.1 I.2.1 hw a5 a6 g1 (by omega) e
          refine ⟨v.2, b.2, a.2, r.2, rest, ?_, bleN b5, a1, by omega, a2, a3, by omega, g1, by omega, by rw [a4]; omega, ⟨w1, I.2.1.blk (a8 (by decide)), I.2.2.trans w4⟩, w2, w3⟩
          exact hS.trans (ce (pe b1) (ce (pe b2) (ce (pe b3) (ce (pe b4) rfl))))
      · cases e
  · cases e
theorem xCpy_of {kd : Nat} (gk : GOk G) (tk : TabOk T) (hk : kd < 2) (I : Inv G T M h0 ρ h s) (e : xCpy G T M lo n kd s k = some (s', k')) : ∃ c d b e a rest, s.2.1 = (0, c) :: (0, d) :: (2, b) :: (0, e) :: (2, a) :: rest ∧ zcats rest ≤ 8 ∧ (0 ≤ zv ρ a ∧ 4 ≤ (zv ρ a).toNat ∧ (zv ρ a).toNat < h.1 ∧ (h.2 (zv ρ a).toNat).1 = kd) ∧ (0 ≤ zv ρ b ∧ 4 ≤ (zv ρ b).toNat ∧ (zv ρ b).toNat < h.1 ∧ (h.2 (zv ρ b).toNat).1 = kd) ∧ 0 ≤ zv ρ e ∧ 0 ≤ zv ρ d ∧ 0 ≤ zv ρ c ∧ zv ρ e + zv ρ c ≤ ((h.2 (zv ρ a).toNat).2.1 : Int) ∧ zv ρ d + zv ρ c ≤ ((h.2 (zv ρ b).toNat).2.1 : Int) ∧ Inv G T M h0 ρ (hcopy h (zv ρ a).toNat (zv ρ b).toNat (zv ρ e).toNat (zv ρ d).toNat (zv ρ c).toNat) s' ∧ s'.1 = s.1 ∧ s'.2.1 = rest := by
  unfold xCpy at e
  split at e
  · next c d b f a rest hS =>
    cases e0 : (Nat.beq c.1 0 && (Nat.beq d.1 0 && (Nat.beq b.1 2 && (Nat.beq f.1 0 && (Nat.beq a.1 2 && Nat.ble (zcats rest) 8))))) with
    | false => rw [e0] at e; cases e
    | true =>
      rw [e0, cond_true] at e
      obtain ⟨b1, b2⟩ := andB e0
      obtain ⟨b2, b3⟩ := andB b2
      obtain ⟨b3, b4⟩ := andB b3
      obtain ⟨b4, b5⟩ := andB b4
      obtain ⟨b5, b6⟩ := andB b5
      split at e
      · next p k1 e1 =>
        split at e
        · next q k2 e2 =>
          split at e
          next cs k3 e3 =>
          cases e4 : (Nat.ble 4 p.2.1 && (Nat.ble 4 q.2.1 && zcerts s.2.2.1 cs [f.2, d.2, c.2, zsb (zsb p.1 f.2) c.2, zsb (zsb q.1 d.2) c.2, zsb (zc 2147483646) p.1, zsb (zc 2147483646) q.1])) with
          | false => rw [e4] at e; cases e
          | true =>
            rw [e4, cond_true] at e
            obtain ⟨c1, c2⟩ := andB e4
            obtain ⟨c2, c3⟩ := andB c2
            have c1 := bleN c1
            have c2 := bleN c2
            have c3 := zcerts_of I.1.1 c3
            have g1 := c3 f.2 (by simp)
            have g2 := c3 d.2 (by simp)
            have g3 := c3 c.2 (by simp)
            have g4 := c3 (zsb (zsb p.1 f.2) c.2) (by simp)
            have g5 := c3 (zsb (zsb q.1 d.2) c.2) (by simp)
            have g6 := c3 (zsb (zc 2147483646) p.1) (by simp)
            have g7 := c3 (zsb (zc 2147483646) q.1) (by simp)
            rw [zsb_v, zsb_v] at g4 g5
            rw [zsb_v, zc_v] at g6 g7
            obtain ⟨a1, a2, a3, a4, a5, a6, a7, a8, a9⟩ := zcl_of tk I.1.1 I.1.2.2.1 I.2.1 e1
            obtain ⟨d1, d2, d3, d4, d5, d6, d7, d8, d9⟩ := zcl_of tk I.1.1 I.1.2.2.1 I.2.1 e2
            have a4 := a4 (by omega)
            have d4 := d4 (by omega)
            have hw : BlkW h (hblk h (zv ρ b.2).toNat fun q => if (zv ρ d.2).toNat ≤ q ∧ q < (zv ρ d.2).toNat + (zv ρ c.2).toNat then (h.2 (zv ρ a.2).toNat).2.2 ((zv ρ f.2).toNat + (q - (zv ρ d.2).toNat)) else (h.2 (zv ρ b.2).toNat).2.2 q) (zv ρ b.2) (zv ρ d.2) (zv ρ (zadd d.2 c.2)) (fB 1 h ρ a.2 (zsb f.2 d.2)) := fun r' i' => by
              have z := gz_copy (h := h) a1 d1 g1 g2 g3 (by omega) (by omega) r' i'
              rw [zadd_v]
              show _ = if r' = zv ρ b.2 ∧ _ then gz h (zv ρ a.2) (i' + zv ρ (zsb f.2 d.2)) else _
              rw [zsb_v]
              exact z
            obtain ⟨w1, w2, w3, w4⟩ := xBlk_of gk I.1 I.2.1 hw d5 d6 g2 (by rw [zadd_v]; omega) e
            refine ⟨c.2, d.2, b.2, f.2, a.2, rest, ?_, bleN b6, ⟨a1, by omega, a2, a3⟩, ⟨d1, by omega, d2, d3⟩, g1, g2, g3, by rw [a4]; omega, by rw [d4]; omega, ⟨w1, I.2.1.blk (d8 (by omega)), I.2.2.trans w4⟩, w2, w3⟩
            exact hS.trans (ce (pe b1) (ce (pe b2) (ce (pe b3) (ce (pe b4) (ce (pe b5) rfl)))))
        · cases e
      · cases e
  · cases e
theorem hset_blk (h : MH) (a j : Nat) (v : Int) : hset h a j v = hblk h a fun q => if j ≤ q ∧ q < j + 1 then v else (h.2 a).2.2 q := by
  unfold hset hblk
  refine Prod.ext rfl (funext fun b => ?_)
  show (if b = a then _ else _ : MC) = (if b = a then _ else _ : MC)
  by_cases e : b = a
  · rw [if_pos e, if_pos e]
    refine Prod.ext rfl (Prod.ext rfl (funext fun q => ?_))
    show (if q = j then v else _) = (if j ≤ q ∧ q < j + 1 then v else _)
    by_cases z : q = j
    · rw [if_pos z, if_pos (by omega)]
    · rw [if_neg z, if_neg (by omega)]
  · rw [if_neg e, if_neg e]
theorem xAas_of {kd : Nat} (gk : GOk G) (tk : TabOk T) (hk : kd < 2) (I : Inv G T M h0 ρ h s) (e : xAas G T M lo n kd s k = some (s', k')) : ∃ v b r rest, s.2.1 = (2, v) :: (0, b) :: (2, r) :: rest ∧ (0 ≤ zv ρ r ∧ 4 ≤ (zv ρ r).toNat ∧ (zv ρ r).toNat < h.1 ∧ (h.2 (zv ρ r).toNat).1 = 6 + kd) ∧ (0 ≤ zv ρ v ∧ 4 ≤ (zv ρ v).toNat ∧ (zv ρ v).toNat < h.1 ∧ (h.2 (zv ρ v).toNat).1 = kd) ∧ 0 ≤ zv ρ b ∧ zv ρ b < ((h.2 (zv ρ r).toNat).2.1 : Int) ∧ Inv G T M h0 ρ (hset h (zv ρ r).toNat (zv ρ b).toNat (zv ρ v)) s' ∧ s'.1 = s.1 ∧ s'.2.1 = rest := by
  unfold xAas at e
  split at e
  · next v b r rest hS =>
    cases e0 : (Nat.beq v.1 2 && (Nat.beq b.1 0 && (Nat.beq r.1 2 && Nat.ble (zcats rest) 8))) with
    | false => rw [e0] at e; cases e
    | true =>
      rw [e0, cond_true] at e
      obtain ⟨b1, b2⟩ := andB e0
      obtain ⟨b2, b3⟩ := andB b2
      obtain ⟨b3, b4⟩ := andB b3
      split at e
      · next p k1 e1 =>
        split at e
        · next q k2 e2 =>
          split at e
          next cs k3 e3 =>
          cases e4 : (Nat.ble 4 p.2.1 && (Nat.ble 4 q.2.1 && (Nat.beq p.2.1 p.2.2 && (Nat.beq (T.2.2.2.2 p.2.1).2 0 && zcerts s.2.2.1 cs [b.2, zpl (zsb p.1 b.2) (-1), zsb (zc 2147483646) p.1])))) with
          | false => rw [e4] at e; cases e
          | true =>
            rw [e4, cond_true] at e
            obtain ⟨c1, c2⟩ := andB e4
            obtain ⟨c2, c3⟩ := andB c2
            obtain ⟨c3, c4⟩ := andB c3
            obtain ⟨c4, c5⟩ := andB c4
            have c1 := bleN c1
            have c2 := bleN c2
            have c3 := beqN c3
            have c4 := beqN c4
            have c5 := zcerts_of I.1.1 c5
            have g1 := c5 b.2 (by simp)
            have g2 := c5 (zpl (zsb p.1 b.2) (-1)) (by simp)
            have g3 := c5 (zsb (zc 2147483646) p.1) (by simp)
            rw [zpl_v, zsb_v] at g2
            rw [zsb_v, zc_v] at g3
            obtain ⟨a1, a2, a3, a4, a5, a6, a7, a8, a9⟩ := zcl_of tk I.1.1 I.1.2.2.1 I.2.1 e1
            obtain ⟨d1, d2, d3, d4, d5, d6, d7, d8, d9⟩ := zcl_of tk I.1.1 I.1.2.2.1 I.2.1 e2
            have a4 := a4 (by omega)
            obtain ⟨a10, a11⟩ := a9 c3
            have hR : (zv ρ r.2).toNat = p.2.1 := by omega
            have hno : ∀ j, T.2.2.2.1 (zv ρ r.2).toNat j = 0 ∧ ¬ j < (T.2.2.2.2 (zv ρ r.2).toNat).2 := fun j => by
              rw [hR]
              refine ⟨?_, by rw [c4]; omega⟩
              by_cases q : T.2.2.2.1 p.2.1 j = 0
              · exact q
              · have := (tk.1 _ _ q).2.2.1
                omega
            have hw : BlkW h (hblk h (zv ρ r.2).toNat fun q => if (zv ρ b.2).toNat ≤ q ∧ q < (zv ρ (zpl b.2 1)).toNat then zv ρ v.2 else (h.2 (zv ρ r.2).toNat).2.2 q) (zv ρ r.2) (zv ρ b.2) (zv ρ (zpl b.2 1)) (fB 0 h ρ v.2 (zc 0)) := fun r' i' => gz_fill a1 g1 (by rw [zpl_v]; omega) r' i'
            obtain ⟨w1, w2, w3, w4⟩ := xBlk_of gk I.1 I.2.1 hw a5 a6 g1 (by rw [zpl_v]; omega) e
            have he : hset h (zv ρ r.2).toNat (zv ρ b.2).toNat (zv ρ v.2) = hblk h (zv ρ r.2).toNat fun q => if (zv ρ b.2).toNat ≤ q ∧ q < (zv ρ (zpl b.2 1)).toNat then zv ρ v.2 else (h.2 (zv ρ r.2).toNat).2.2 q := by
              rw [hset_blk, zpl_v, show (zv ρ b.2 + 1).toNat = (zv ρ b.2).toNat + 1 by omega]
            refine ⟨v.2, b.2, r.2, rest, ?_, ⟨a1, by omega, a2, a3⟩, ⟨d1, by omega, d2, d3⟩, g1, by rw [a4]; omega, ?_, w2, w3⟩
            · exact hS.trans (ce (pe b1) (ce (pe b2) (ce (pe b3) rfl)))
            · rw [he]
              exact ⟨w1, I.2.1.blk hno, I.2.2.trans w4⟩
        · cases e
      · cases e
  · cases e
theorem xCst_of (tk : TabOk T) (I : Inv G T M h0 ρ h s) (e : xCst T s k = some (s', k')) : ∃ r rest, s.2.1 = (2, r) :: rest ∧ (0 ≤ zv ρ r ∧ 4 ≤ (zv ρ r).toNat ∧ (zv ρ r).toNat < h.1 ∧ (h.2 (zv ρ r).toNat).1 = 1) ∧ s' = s := by
  unfold xCst at e
  split at e
  · next r rest hS =>
    cases e0 : Nat.beq r.1 2 with
    | false => rw [e0] at e; cases e
    | true =>
      rw [e0, cond_true] at e
      split at e
      · next p k1 e1 =>
        cases e2 : Nat.ble 4 p.2.1 with
        | false => rw [e2] at e; cases e
        | true =>
          rw [e2, cond_true] at e
          cases e
          have e2 := bleN e2
          obtain ⟨a1, a2, a3, a4, a5, a6, a7, a8, a9⟩ := zcl_of tk I.1.1 I.1.2.2.1 I.2.1 e1
          exact ⟨r.2, rest, hS.trans (ce (pe e0) rfl), ⟨a1, by omega, a2, a3⟩, rfl⟩
      · cases e
  · cases e
theorem xCln_of (gk : GOk G) (tk : TabOk T) (I : Inv G T M h0 ρ h s) (e : xCln G T M lo n s k = some (s', k')) : ∃ b rest p k1, k = p :: k1 ∧ s.2.1 = (2, b) :: rest ∧ zcats rest ≤ 8 ∧ (0 ≤ zv ρ b ∧ 4 ≤ (zv ρ b).toNat ∧ (zv ρ b).toNat < h.1 ∧ (h.2 (zv ρ b).toNat).1 = 1) ∧ (h.2 (zv ρ b).toNat).2.1 ≤ p ∧ ∃ ρ', (∀ u, u < lo → ρ' u = ρ u) ∧ Inv G T M h0 ρ' (hcopy (hnew h (1, (h.2 (zv ρ b).toNat).2.1, fun _ => 0)) (zv ρ b).toNat h.1 0 0 (h.2 (zv ρ b).toNat).2.1) s' ∧ zL ρ' s'.1 = zL ρ s.1 ∧ zSk ρ' s'.2.1 = (2, (h.1 : Int)) :: zSk ρ rest := by
  unfold xCln at e
  split at e
  · next r rest hS =>
    split at e
    · next c hc =>
      cases e0 : (Nat.beq r.1 2 && (zleq r.2.2 [] && (Nat.ble 4 c && (Nat.blt c T.1 && Nat.beq (T.2.1 c) 1)))) with
      | false => rw [e0] at e; cases e
      | true =>
        rw [e0, cond_true] at e
        obtain ⟨b1, b2⟩ := andB e0
        obtain ⟨b2, b3⟩ := andB b2
        obtain ⟨b3, b4⟩ := andB b3
        obtain ⟨b4, b5⟩ := andB b4
        have b2 := zleq_of b2
        have b3 := bleN b3
        have b4 := bltN b4
        have b5 := beqN b5
        have hv : ∀ σ : Nat → Int, zv σ r.2 = (c : Int) := fun σ => by
          have : r.2 = (Int.ofNat c, []) := Prod.ext hc b2
          rw [this]
          exact zc_v σ _
        obtain ⟨t1, t2⟩ := I.2.1.1.2 c (by omega) b4
        have t2 := t2 (by omega)
        have hlt : c < h.1 := Nat.lt_of_lt_of_le b4 I.2.1.1.1
        have hvn : ∀ σ : Nat → Int, (zv σ r.2).toNat = c := fun σ => by rw [hv]; exact Int.toNat_natCast c
        split at e
        · next s2 k2 e1 =>
          split at e
          · next q rest2 hq =>
            split at e
            · next s4 k4 e2 =>
              cases e
              obtain ⟨v, rest', p, k1, w1, w2, w3, w4, w5, ρ', z1, z2, z3, z4, z5, z6⟩ := xMk_of (s := (s.1, (0, zc (Int.ofNat (T.2.2.1 c))) :: rest, s.2.2)) gk tk I.1 I.2.1 e1
              cases w3
              have hln : zv ρ (zc (Int.ofNat (T.2.2.1 c))) = ((T.2.2.1 c : Nat) : Int) := zc_v ρ _
              have hln' : zv ρ' (zc (Int.ofNat (T.2.2.1 c))) = ((T.2.2.1 c : Nat) : Int) := zc_v ρ' _
              rw [hln, Int.toNat_natCast] at z2 z5 z6
              rw [hln] at w5
              have z4 : zSk ρ' s2.2.1 = (2, (h.1 : Int)) :: zSk ρ rest := z4
              rw [hq] at z4
              have z4 : (q.1, zv ρ' q.2) :: zSk ρ' rest2 = (2, (h.1 : Int)) :: zSk ρ rest := z4
              have y1 := (List.cons.inj z4).1
              have y2 := (List.cons.inj z4).2
              have y3 : q.1 = 2 := congrArg Prod.fst y1
              have y4 : zv ρ' q.2 = (h.1 : Int) := congrArg Prod.snd y1
              obtain ⟨c', d', b', e', a', r3, u1, u2, u3, u4, u5, u6, u7, u8, u9, J, j1, j2⟩ := xCpy_of (s := (s2.1, (0, zc (Int.ofNat (T.2.2.1 c))) :: (0, zc 0) :: q :: (0, zc 0) :: r :: rest2, s2.2.2)) (h0 := h0) gk tk (by decide) ⟨z2, z5, I.2.2.trans z6⟩ e2
              have u1 : (0, zc (Int.ofNat (T.2.2.1 c))) :: (0, zc 0) :: q :: (0, zc 0) :: r :: rest2 = (0, c') :: (0, d') :: (2, b') :: (0, e') :: (2, a') :: r3 := u1
              cases u1
              have o0 : zv ρ' (zc 0) = 0 := zc_v ρ' 0
              rw [hv, y4, o0, hln', Int.toNat_natCast, Int.toNat_natCast, Int.toNat_natCast] at J
              have e3 : zcats rest2 = zcats rest := by rw [← zcats_of ρ' rest2, ← zcats_of ρ rest, y2]
              refine ⟨_, rest, p, k1, w1, hS.trans (ce (pe b1) rfl), by omega, ?_⟩
              rw [hvn ρ, hv ρ, t2]
              refine ⟨⟨Int.natCast_nonneg _, b3, hlt, t1.trans b5⟩, by omega, ρ', z1, J, ?_, ?_⟩
              · exact (congrArg (zL ρ') j1).trans z3
              · show zSk ρ' ((2, b') :: s4.2.1) = _
                rw [j2, ← y2, ← y4]
                rfl
            · cases e
          · cases e
        · cases e
    · cases e
  · cases e
theorem okX_at {e : Nat × Nat × Nat} (h : xfind m i XT = some e) : okX (m, i, e) = true := List.all_eq_true.mp XT_ok _ (xfind_of h)
theorem goS {s' : ZSt} {h' : MH} {S : ZSs} (I : Inv G T M h0 ρ h' s') (e1 : s'.1 = s.1) (e2 : s'.2.1 = S) {j : Nat} (kk : Go G T M (pgT m) (kT m) Q mc ms h0 lo ρ j s') : MW (kT m) Q mc ms (pcA (pgT m) j) (zL ρ s.1) (zSk ρ S) h' := by
  have := kk ρ h' (fun _ _ => rfl) I
  rw [e1, e2] at this
  exact this
set_option maxHeartbeats 4000000 in
theorem xExt_of (gk : GOk G) (tk : TabOk T) (hct : ∀ j c, CT j = some c → CtOk G T c) (hm : m < 821) (I : Inv G T M h0 ρ h s) (e : xExt G T M CT m lo n i s k = some (ss, k')) (hb : (zbx CT m i k).1 ≤ mc ∧ (zbx CT m i k).2 ≤ ms) (kk : ∀ q ∈ ss, Go G T M (pgT m) (kT m) Q (mc - (zbx CT m i k).1) (ms - (zbx CT m i k).2) h0 lo ρ q.1 q.2) : MW (kT m) Q mc ms (pcA (pgT m) i) (zL ρ s.1) (zSk ρ s.2.1) h := by
  unfold xExt at e
  split at e
  · next c a b hf =>
    have o := (andB (okX_at hf)).2
    split at e
    · have o : (okT (kT m) (pcA (pgT m) i) (.invokestatic a) 3 && (Nat.beq (pcA (pgT m) i + 3) (pcA (pgT m) (i + 1)) && (fitB (kT m) kFI && in3 80 (ownT m) a XW))) = true := o
      have ez : zbx CT m i k = (0, 0) := by unfold zbx; rw [hf]; rfl
      rw [ez] at hb kk
      obtain ⟨o1, o2⟩ := andB o
      obtain ⟨o2, o3⟩ := andB o2
      obtain ⟨o3, o4⟩ := andB o3
      obtain ⟨s', e1, rfl⟩ := one'_of e
      obtain ⟨v, r, rest, hS, z1, z2, z3, z4, z5, z6, J, j1, j2⟩ := xFil_of gk tk (by decide) I e1
      rw [hS]
      refine m_invokestaticX (K' := kFI) (y := yJ7_fill_53178) (As := [(2, zv ρ r), (0, zv ρ v)]) (S := zSk ρ rest) (okT_of o1) (fun _ => by decide) ⟨lo_J7_fill_53178, li_J7⟩ ⟨XW_at hm o4, lv_J7_fill_53178_s⟩ ⟨by decide, by decide, (by show _ = some 2; decide +kernel)⟩ (fitB_of o3).1 (Nat.le_trans (Nat.le_of_eq (zcats_of ρ rest)) z1) rfl (Nat.zero_le _) (Nat.zero_le _) (fillI_of z2 z3 z4 z5 z6) fun o h' q => ⟨fun _ => ?_, fun z => by rw [q.1] at z; cases z⟩
      rw [q.2, beqN o2]
      exact goS J j1 j2 (gone kk)
    · have o : (okT (kT m) (pcA (pgT m) i) (.invokestatic a) 3 && (Nat.beq (pcA (pgT m) i + 3) (pcA (pgT m) (i + 1)) && (fitB (kT m) kFL && in3 81 (ownT m) a XW))) = true := o
      have ez : zbx CT m i k = (0, 0) := by unfold zbx; rw [hf]; rfl
      rw [ez] at hb kk
      obtain ⟨o1, o2⟩ := andB o
      obtain ⟨o2, o3⟩ := andB o2
      obtain ⟨o3, o4⟩ := andB o3
      obtain ⟨s', e1, rfl⟩ := one'_of e
      obtain ⟨v, r, rest, hS, z1, z2, z3, z4, z5, z6, J, j1, j2⟩ := xFil_of gk tk (by decide) I e1
      rw [hS]
      refine m_invokestaticX (K' := kFL) (y := yJ7_fill_d0a16) (As := [(2, zv ρ r), (1, zv ρ v)]) (S := zSk ρ rest) (okT_of o1) (fun _ => by decide) ⟨lo_J7_fill_d0a16, li_J7⟩ ⟨XW_at hm o4, lv_J7_fill_d0a16_s⟩ ⟨by decide, by decide, (by show _ = some 2; decide +kernel)⟩ (fitB_of o3).1 (Nat.le_trans (Nat.le_of_eq (zcats_of ρ rest)) z1) rfl (Nat.zero_le _) (Nat.zero_le _) (fillL_of z2 z3 z4 z5 z6) fun o h' q => ⟨fun _ => ?_, fun z => by rw [q.1] at z; cases z⟩
      rw [q.2, beqN o2]
      exact goS J j1 j2 (gone kk)
    · have o : (okT (kT m) (pcA (pgT m) i) (.invokestatic a) 3 && (Nat.beq (pcA (pgT m) i + 3) (pcA (pgT m) (i + 1)) && (fitB (kT m) kFR && in3 82 (ownT m) a XW))) = true := o
      have ez : zbx CT m i k = (0, 0) := by unfold zbx; rw [hf]; rfl
      rw [ez] at hb kk
      obtain ⟨o1, o2⟩ := andB o
      obtain ⟨o2, o3⟩ := andB o2
      obtain ⟨o3, o4⟩ := andB o3
      obtain ⟨s', e1, rfl⟩ := one'_of e
      obtain ⟨v, b', a', r, rest, hS, z1, z2, z3, z4, z5, z6, z7, z8, z9, J, j1, j2⟩ := xFilR_of gk tk I e1
      rw [hS]
      refine m_invokestaticX (K' := kFR) (y := yJ7_fill_fda19) (As := [(2, zv ρ r), (0, zv ρ a'), (0, zv ρ b'), (0, zv ρ v)]) (S := zSk ρ rest) (okT_of o1) (fun _ => by decide) ⟨lo_J7_fill_fda19, li_J7⟩ ⟨XW_at hm o4, lv_J7_fill_fda19_s⟩ ⟨by decide, by decide, (by show _ = some 4; decide +kernel)⟩ (fitB_of o3).1 (Nat.le_trans (Nat.le_of_eq (zcats_of ρ rest)) z1) rfl (Nat.zero_le _) (Nat.zero_le _) (fillR_of z2 z3 z4 z5 z6 z7 z8 z9) fun o h' q => ⟨fun _ => ?_, fun z => by rw [q.1] at z; cases z⟩
      rw [q.2, beqN o2]
      exact goS J j1 j2 (gone kk)
    · have o : (okT (kT m) (pcA (pgT m) i) (.invokestatic a) 3 && (Nat.beq (pcA (pgT m) i + 3) (pcA (pgT m) (i + 1)) && (Nat.ble 1 (kT m).2.2.2.2.2.1 && (Nat.ble 26 (kT m).2.2.2.2.2.2 && in3 83 (ownT m) a XW)))) = true := o
      have ez : zbx CT m i k = (0, 0) := by unfold zbx; rw [hf]; rfl
      rw [ez] at hb kk
      obtain ⟨o1, o2⟩ := andB o
      obtain ⟨o2, o3⟩ := andB o2
      obtain ⟨o3, o4⟩ := andB o3
      obtain ⟨o4, o5⟩ := andB o4
      obtain ⟨s', e1, rfl⟩ := one'_of e
      obtain ⟨c', d', b', e', a', rest, hS, z1, z2, z3, z4, z5, z6, z7, z8, J, j1, j2⟩ := xCpy_of gk tk (by decide) I e1
      rw [hS]
      refine m_copyI (okT_of o1) (XW_at hm o5) ⟨bleN o3, bleN o4⟩ (Nat.le_trans (Nat.le_of_eq (zcats_of ρ rest)) z1) z2.1 z2.2.1 z2.2.2.1 z2.2.2.2 z3.1 z3.2.1 z3.2.2.1 z3.2.2.2 z4 z5 z6 z7 z8 ?_
      rw [beqN o2]
      exact goS J j1 j2 (gone kk)
    · have o : (okT (kT m) (pcA (pgT m) i) (.invokestatic a) 3 && (Nat.beq (pcA (pgT m) i + 3) (pcA (pgT m) (i + 1)) && (Nat.ble 1 (kT m).2.2.2.2.2.1 && (Nat.ble 26 (kT m).2.2.2.2.2.2 && in3 84 (ownT m) a XW)))) = true := o
      have ez : zbx CT m i k = (0, 0) := by unfold zbx; rw [hf]; rfl
      rw [ez] at hb kk
      obtain ⟨o1, o2⟩ := andB o
      obtain ⟨o2, o3⟩ := andB o2
      obtain ⟨o3, o4⟩ := andB o3
      obtain ⟨o4, o5⟩ := andB o4
      obtain ⟨s', e1, rfl⟩ := one'_of e
      obtain ⟨c', d', b', e', a', rest, hS, z1, z2, z3, z4, z5, z6, z7, z8, J, j1, j2⟩ := xCpy_of gk tk (by decide) I e1
      rw [hS]
      refine m_copyL (okT_of o1) (XW_at hm o5) ⟨bleN o3, bleN o4⟩ (Nat.le_trans (Nat.le_of_eq (zcats_of ρ rest)) z1) z2.1 z2.2.1 z2.2.2.1 z2.2.2.2 z3.1 z3.2.1 z3.2.2.1 z3.2.2.2 z4 z5 z6 z7 z8 ?_
      rw [beqN o2]
      exact goS J j1 j2 (gone kk)
    · have o : (okT (kT m) (pcA (pgT m) i) (.invokestatic a) 3 && (Nat.beq (pcA (pgT m) i + 3) (pcA (pgT m) (i + 1)) && (fitB (kT m) kFD && in3 85 (ownT m) a XW))) = true := o
      have ez : zbx CT m i k = (0, 0) := by unfold zbx; rw [hf]; rfl
      rw [ez] at hb kk
      obtain ⟨o1, o2⟩ := andB o
      obtain ⟨o2, o3⟩ := andB o2
      obtain ⟨o3, o4⟩ := andB o3
      split at e
      · next y x0 rest0 hS =>
        split at e
        next d k1 e1 =>
        cases e2 : (zcert s.2.2.1 d (zpl y.2 (-1)) && Nat.ble (zcats rest0) 8) with
        | false => rw [e2] at e; cases e
        | true =>
          rw [e2, cond_true] at e
          obtain ⟨c1, c2⟩ := andB e2
          have c1 := zcert_of I.1.1 c1
          rw [zpl_v] at c1
          obtain ⟨s', e3, rfl⟩ := one'_of e
          obtain ⟨rest, hr, hv⟩ := xNew_of I.1 e3
          obtain ⟨yy, xx, hS2⟩ := zpre2 hr
          rw [hS2] at hS
          cases hS
          rw [hS2]
          refine m_okS fun _ oS => ?_
          refine m_invokestaticX (K' := kFD) (y := yJ9_floorDiv_f86c9) (As := [(1, zv ρ xx), (1, zv ρ yy)]) (S := zSk ρ rest0) (okT_of o1) (fun _ => by decide) ⟨lo_J9_floorDiv_f86c9, li_J9⟩ ⟨XW_at hm o4, lv_J9_floorDiv_f86c9_s⟩ ⟨by decide, by decide, (by show _ = some 2; decide +kernel)⟩ (fitB_of o3).1 (Nat.le_trans (Nat.le_of_eq (zcats_of ρ rest0)) (bleN c2)) rfl (Nat.zero_le _) (Nat.zero_le _) (floorDiv_of (mokS_cons.mp (mokS_cons.mp oS).2).1 (by replace c1 : 0 ≤ zv ρ yy + (-1) := c1; omega)) fun o h' q => ⟨fun z => (by rw [q.1] at z; cases z), fun _ => ?_⟩
          obtain ⟨q1, ⟨z, q2⟩, q3⟩ := q
          rw [q2, q3, beqN o2]
          refine m_okS fun _ oS2 => ?_
          have mz := (mokS_cons.mp oS2).1
          exact goV I.2.1 I.2.2 (hv z fun ρ' t ht _ => rngF_of (tag := 1) (by rw [ht]; exact mz.1) (by rw [ht]; exact mz.2)) (gone kk)
      · cases e
    · have o : (okT (kT m) (pcA (pgT m) i) .lushr 1 && Nat.beq (pcA (pgT m) i + 1) (pcA (pgT m) (i + 1))) = true := o
      have ez : zbx CT m i k = (0, 0) := by unfold zbx; rw [hf]; rfl
      rw [ez] at hb kk
      obtain ⟨o1, o2⟩ := andB o
      split at e
      · next y x0 rest0 hS =>
        obtain ⟨s', e3, rfl⟩ := one'_of e
        obtain ⟨rest, hr, hv⟩ := xNew_of I.1 e3
        obtain ⟨yy, xx, hS2⟩ := zpre2 hr
        rw [hS2] at hS
        cases hS
        rw [hS2]
        refine m_lushr _ (okT_of o1) (beqN o2) ?_
        refine goV I.2.1 I.2.2 (hv _ fun ρ' t ht hs => ?_) (gone kk)
        cases w : zeq yy (zc 54) with
        | true =>
          have e54 : zv ρ yy = 54 := by rw [zeq_of w, zc_v]
          rw [e54] at ht
          have q := ushr54 (Int64.ofInt (zv ρ xx))
          exact all2 (by rw [ht]; exact q.1) (by rw [zsb_v, zc_v, ht]; exact Int.sub_nonneg_of_le q.2)
        | false => exact rngF_of (tag := 1) (by rw [ht]; exact (mL_rng _).1) (by rw [ht]; exact (mL_rng _).2)
      · cases e
    · have o : (bif Nat.beq b 0 then okT (kT m) (pcA (pgT m) i) (.dload a) 2 && Nat.beq (pcA (pgT m) i + 2) (pcA (pgT m) (i + 1)) else Nat.blt a 4 && (okT (kT m) (pcA (pgT m) i) (.dload_n (fin4 a)) 1 && Nat.beq (pcA (pgT m) i + 1) (pcA (pgT m) (i + 1)))) = true := o
      have ez : zbx CT m i k = (0, 0) := by unfold zbx; rw [hf]; rfl
      rw [ez] at hb kk
      split at e
      · next v hv =>
        cases w : Nat.beq v.1 3 with
        | false => rw [w] at e; cases e
        | true =>
          rw [w, cond_true] at e
          cases e
          have lk := zlk_of ρ hv
          rw [beqN w] at lk
          have go := gone kk ρ h (fun _ _ => rfl) ⟨I.1, I.2⟩
          replace go : MW (kT m) Q mc ms (pcA (pgT m) (i + 1)) (zL ρ s.1) ((v.1, zv ρ v.2) :: zSk ρ s.2.1) h := go
          rw [beqN w] at go
          cases w2 : Nat.beq b 0 with
          | true =>
            rw [w2, cond_true] at o
            obtain ⟨o1, o2⟩ := andB o
            refine m_dload (okT_of o1) lk ?_
            rw [beqN o2]
            exact go
          | false =>
            rw [w2, cond_false] at o
            obtain ⟨o0, o1⟩ := andB o
            obtain ⟨o1, o2⟩ := andB o1
            refine m_dload_n (okT_of o1) (x := zv ρ v.2) ?_ ?_
            · rw [show ((fin4 a : Fin 4) : Nat) = a from Nat.mod_eq_of_lt (bltN o0)]
              exact lk
            · rw [beqN o2]
              exact go
      · cases e
    · have o : (Nat.blt (a + 1) (kT m).2.2.2.1 && (bif Nat.beq b 0 then okT (kT m) (pcA (pgT m) i) (.dstore a) 2 && Nat.beq (pcA (pgT m) i + 2) (pcA (pgT m) (i + 1)) else Nat.blt a 4 && (okT (kT m) (pcA (pgT m) i) (.dstore_n (fin4 a)) 1 && Nat.beq (pcA (pgT m) i + 1) (pcA (pgT m) (i + 1))))) = true := o
      have ez : zbx CT m i k = (0, 0) := by unfold zbx; rw [hf]; rfl
      rw [ez] at hb kk
      obtain ⟨o0, o⟩ := andB o
      split at e
      · next v rest hS =>
        cases w : Nat.beq v.1 3 with
        | false => rw [w] at e; cases e
        | true =>
          rw [w, cond_true] at e
          cases e
          have go := gone kk ρ h (fun _ _ => rfl) ⟨I.1, I.2⟩
          replace go : MW (kT m) Q mc ms (pcA (pgT m) (i + 1)) (zL ρ (zput2 s.1 a v)) (zSk ρ rest) h := go
          rw [zput2_of, beqN w] at go
          rw [hS]
          show MW _ _ _ _ _ _ ((v.1, zv ρ v.2) :: zSk ρ rest) h
          rw [beqN w]
          cases w2 : Nat.beq b 0 with
          | true =>
            rw [w2, cond_true] at o
            obtain ⟨o1, o2⟩ := andB o
            exact m_dstore _ (okT_of o1) (beqN o2) (bltN o0) go
          | false =>
            rw [w2, cond_false] at o
            obtain ⟨o3, o1⟩ := andB o
            obtain ⟨o1, o2⟩ := andB o1
            exact m_dstore_n _ (Nat.mod_eq_of_lt (bltN o3)) (okT_of o1) (beqN o2) (bltN o0) go
      · cases e
    · have o : (okT (kT m) (pcA (pgT m) i) (.dconst 0) 1 && Nat.beq (pcA (pgT m) i + 1) (pcA (pgT m) (i + 1))) = true := o
      have ez : zbx CT m i k = (0, 0) := by unfold zbx; rw [hf]; rfl
      rw [ez] at hb kk
      obtain ⟨o1, o2⟩ := andB o
      obtain ⟨s', e3, rfl⟩ := one'_of e
      obtain ⟨rest, hr, hv⟩ := xNew_of I.1 e3
      cases hr
      refine m_dconst0 (okT_of o1) ?_
      rw [beqN o2]
      exact goV I.2.1 I.2.2 (hv _ fun _ _ _ _ => noF) (gone kk)
    · have o : (okT (kT m) (pcA (pgT m) i) (.ldc2_w a) 3 && (Nat.beq (pcA (pgT m) i + 3) (pcA (pgT m) (i + 1)) && in3 (ownT m) a b XCn)) = true := o
      have ez : zbx CT m i k = (0, 0) := by unfold zbx; rw [hf]; rfl
      rw [ez] at hb kk
      obtain ⟨o1, o2⟩ := andB o
      obtain ⟨o2, o3⟩ := andB o2
      obtain ⟨s', e3, rfl⟩ := one'_of e
      obtain ⟨rest, hr, hv⟩ := xNew_of I.1 e3
      cases hr
      refine m_ldc2d (okT_of o1) (v := UInt64.ofNat b) (by rw [kT_cls hm]; exact XCn_ok _ (in3_of o3)) ?_
      rw [beqN o2]
      exact goV I.2.1 I.2.2 (hv _ fun _ _ _ _ => noF) (gone kk)
    · have o : (Nat.beq (kT m).1 1 && (Nat.beq (pcA (pgT m) i + 1) (pcA (pgT m) (i + 1)) && okT (kT m) (pcA (pgT m) i) (dopI a) 1)) = true := o
      have ez : zbx CT m i k = (0, 0) := by unfold zbx; rw [hf]; rfl
      rw [ez] at hb kk
      obtain ⟨o1, o2⟩ := andB o
      obtain ⟨o2, o3⟩ := andB o2
      obtain ⟨s', e3, rfl⟩ := one'_of e
      obtain ⟨rest, hr, hv⟩ := xNew_of I.1 e3
      obtain ⟨yy, xx, hS2⟩ := zpre2 hr
      rw [hS2]
      have fin : ∀ r : UInt64, MW (kT m) Q mc ms (pcA (pgT m) i + 1) (zL ρ s.1) ((3, (r.toNat : Int)) :: zSk ρ rest) h := fun r => by
        rw [beqN o2]
        exact goV I.2.1 I.2.2 (hv _ fun _ _ _ _ => noF) (gone kk)
      rcases a with _ | _ | _ | a
      · exact m_dadd (beqN o1) (okT_of o3) fun r _ => fin r
      · exact m_dsub (beqN o1) (okT_of o3) fun r _ => fin r
      · exact m_dmul (beqN o1) (okT_of o3) fun r _ => fin r
      · exact m_ddiv (beqN o1) (okT_of o3) fun r _ => fin r
    · have o : (Nat.beq (pcA (pgT m) i + 1) (pcA (pgT m) (i + 1)) && okT (kT m) (pcA (pgT m) i) (.dcmp (cmpO a)) 1) = true := o
      have ez : zbx CT m i k = (0, 0) := by unfold zbx; rw [hf]; rfl
      rw [ez] at hb kk
      obtain ⟨o2, o3⟩ := andB o
      obtain ⟨s', e3, rfl⟩ := one'_of e
      obtain ⟨rest, hr, hv⟩ := xNew_of I.1 e3
      obtain ⟨yy, xx, hS2⟩ := zpre2 hr
      rw [hS2]
      refine m_dcmp (okT_of o3) ?_
      rw [beqN o2]
      refine goV I.2.1 I.2.2 (hv _ fun ρ' t ht _ => ?_) (gone kk)
      have q := cmpV_rng (dv (zv ρ ((3, xx) : Nat × ZT).2)) (dv (zv ρ ((3, yy) : Nat × ZT).2)) (cmpO a)
      exact all2 (by rw [zpl_v, ht]; have z := q.1; generalize (cmpValue _ _).toInt = w at z ⊢; omega) (by rw [zsb_v, zc_v, ht]; exact Int.sub_nonneg_of_le q.2)
    · have o : (Nat.beq (pcA (pgT m) i + 1) (pcA (pgT m) (i + 1)) && okT (kT m) (pcA (pgT m) i) .i2d 1) = true := o
      have ez : zbx CT m i k = (0, 0) := by unfold zbx; rw [hf]; rfl
      rw [ez] at hb kk
      obtain ⟨o2, o3⟩ := andB o
      obtain ⟨s', e3, rfl⟩ := one'_of e
      obtain ⟨rest, hr, hv⟩ := xNew_of I.1 e3
      obtain ⟨xx, hS2⟩ := zpre1 hr
      rw [hS2]
      refine m_i2d (okT_of o3) ?_
      rw [beqN o2]
      exact goV I.2.1 I.2.2 (hv _ fun _ _ _ _ => noF) (gone kk)
    · have o : (Nat.beq (pcA (pgT m) i + 1) (pcA (pgT m) (i + 1)) && okT (kT m) (pcA (pgT m) i) .l2d 1) = true := o
      have ez : zbx CT m i k = (0, 0) := by unfold zbx; rw [hf]; rfl
      rw [ez] at hb kk
      obtain ⟨o2, o3⟩ := andB o
      obtain ⟨s', e3, rfl⟩ := one'_of e
      obtain ⟨rest, hr, hv⟩ := xNew_of I.1 e3
      obtain ⟨xx, hS2⟩ := zpre1 hr
      rw [hS2]
      refine m_l2d (okT_of o3) ?_
      rw [beqN o2]
      exact goV I.2.1 I.2.2 (hv _ fun _ _ _ _ => noF) (gone kk)
    · have o : (Nat.beq (pcA (pgT m) i + 2) (pcA (pgT m) (i + 1)) && okT (kT m) (pcA (pgT m) i) (.newarray (bif Nat.beq a 0 then .int else .long)) 2) = true := o
      obtain ⟨o2, o3⟩ := andB o
      cases wa : Nat.ble a 1 with
      | false => rw [wa] at e; cases e
      | true =>
      rw [wa, cond_true] at e
      obtain ⟨s', e3, rfl⟩ := one'_of e
      obtain ⟨v, rest, p, k1, hk, p1, hS, v0, v1, ρ', z1, z2, z3, z4, z5, z6⟩ := xMk_of gk tk I.1 I.2.1 e3
      have ez : zbx CT m i k = (1, p) := by unfold zbx; rw [hf, hk]; rfl
      rw [ez] at hb kk
      rw [hS]
      have go := gone kk ρ' _ z1 ⟨z2, z5, I.2.2.trans z6⟩
      rw [z3, z4] at go
      replace go := m_room (mc := mc - 1) (ms := ms - (zv ρ v).toNat) (Nat.le_refl _) (by show ms - p ≤ _; omega) go
      rw [← beqN o2] at go
      have hb1 : 1 ≤ mc := hb.1
      have hb2 : p ≤ ms := hb.2
      cases w : Nat.beq a 0 with
      | true =>
        rw [w] at o3
        have e0 : a = 0 := beqN w
        subst e0
        exact m_newarray _ (okT_of o3) rfl (Or.inl ⟨rfl, rfl⟩) la_int v0 (show zv ρ v ≤ 10000000 by omega) hb1 (show zv ρ v ≤ (ms : Int) by omega) go
      | false =>
        rw [w] at o3
        have e1 : a = 1 := by have := bleN wa; have := beqN_no w; omega
        subst e1
        exact m_newarray _ (okT_of o3) rfl (Or.inr (Or.inl ⟨rfl, rfl⟩)) la_long v0 (show zv ρ v ≤ 10000000 by omega) hb1 (show zv ρ v ≤ (ms : Int) by omega) go
    · have o : (Nat.beq (pcA (pgT m) i + 1) (pcA (pgT m) (i + 1)) && (Nat.ble a 1 && okT (kT m) (pcA (pgT m) i) .aastore 1)) = true := o
      have ez : zbx CT m i k = (0, 0) := by unfold zbx; rw [hf]; rfl
      rw [ez] at hb kk
      obtain ⟨o2, o3⟩ := andB o
      obtain ⟨o3, o4⟩ := andB o3
      have o3 := bleN o3
      cases wa : Nat.ble a 1 with
      | false => rw [wa] at e; cases e
      | true =>
      rw [wa, cond_true] at e
      obtain ⟨s', e1, rfl⟩ := one'_of e
      obtain ⟨v, b', r, rest, hS, ⟨z1, z2, z3, z4⟩, ⟨z5, z6, z7, z8⟩, z9, z10, J, j1, j2⟩ := xAas_of gk tk (by omega) I e1
      rw [hS]
      have go := goS J j1 j2 (gone kk)
      rw [← beqN o2] at go
      exact m_aast _ (okT_of o4) rfl (kv := a) (ka := 6 + a) (by omega) z1 z2 z3 z4 z5 z6 z7 z8 z9 z10 go
    · have o : (okT (kT m) (pcA (pgT m) i) (.invokevirtual a) 3 && (Nat.beq (pcA (pgT m) i + 3) (pcA (pgT m) (i + 1)) && (Nat.ble 1 (kT m).2.2.2.2.2.1 && (Nat.ble 26 (kT m).2.2.2.2.2.2 && in3 103 (ownT m) a XW)))) = true := o
      obtain ⟨o1, o2⟩ := andB o
      obtain ⟨o2, o3⟩ := andB o2
      obtain ⟨o3, o4⟩ := andB o3
      obtain ⟨o4, o5⟩ := andB o4
      obtain ⟨s', e1, rfl⟩ := one'_of e
      obtain ⟨b', rest, p, k1, hk, hS, z0, ⟨z1, z2, z3, z4⟩, z5, ρ', y1, J, y3, y4⟩ := xCln_of gk tk I e1
      have ez : zbx CT m i k = (1, p) := by unfold zbx; rw [hf, hk]; rfl
      rw [ez] at hb kk
      rw [hS]
      have hb1 : 1 ≤ mc := hb.1
      have hb2 : p ≤ ms := hb.2
      have go := gone kk ρ' _ y1 J
      rw [y3, y4] at go
      replace go := m_room (mc := mc - 1) (ms := ms - (h.2 (zv ρ b').toNat).2.1) (Nat.le_refl _) (by show ms - p ≤ _; omega) go
      rw [← beqN o2] at go
      exact m_cloneL (okT_of o1) (XW_at hm o5) ⟨bleN o3, bleN o4⟩ (Nat.le_trans (Nat.le_of_eq (zcats_of ρ rest)) z0) z1 z2 z3 z4 hb1 (Nat.le_trans z5 hb2) go
    · have o : (okT (kT m) (pcA (pgT m) i) (.checkcast a) 3 && (Nat.beq (pcA (pgT m) i + 3) (pcA (pgT m) (i + 1)) && (Nat.beq (ownT m) 2 && Nat.beq a 229))) = true := o
      have ez : zbx CT m i k = (0, 0) := by unfold zbx; rw [hf]; rfl
      rw [ez] at hb kk
      obtain ⟨o1, o2⟩ := andB o
      obtain ⟨o2, o3⟩ := andB o2
      obtain ⟨o3, o4⟩ := andB o3
      obtain ⟨s', e1, rfl⟩ := one'_of e
      obtain ⟨r, rest, hS, ⟨z1, z2, z3, z4⟩, rfl⟩ := xCst_of tk I e1
      have go := goS I rfl rfl (gone kk)
      rw [← beqN o2] at go
      rw [hS] at go ⊢
      have hw : Cond.classLink (kT m).2.1 a "[J" ∈ mTB := by
        rw [kT_cls hm, beqN o3, beqN o4]
        exact lkX2_229
      exact m_castL _ (okT_of o1) rfl hw z1 z2 z3 z4 go
    · have o : (okT (kT m) (pcA (pgT m) i) (.invokestatic a) 3 && (Nat.beq (pcA (pgT m) i + 3) (pcA (pgT m) (i + 1)) && in3 (ownT m) a b XN)) = true := o
      have ez : zbx CT m i k = zbc CT k := by unfold zbx; rw [hf]; rfl
      rw [ez] at hb kk
      obtain ⟨o1, o2⟩ := andB o
      obtain ⟨o2, o3⟩ := andB o2
      obtain ⟨r, host, hr, hN⟩ := XN_ok _ (in3_of o3)
      split at e
      · next j k1 =>
        split at e
        · next d q hc hq =>
          rw [zbc_at hc] at hb kk
          cases e2 : (Nat.beq d.1 b && (fitB (kT m) q.1 && Nat.beq q.2.2.2.2 1)) with
          | false => rw [e2] at e; cases e
          | true =>
            rw [e2, cond_true] at e
            obtain ⟨c1, c2⟩ := andB e2
            obtain ⟨c2, c3⟩ := andB c2
            have hr : mtab[b]? = some r := hr
            rw [hq] at hr
            have er : q = r := Option.some.inj hr
            subst er
            have hN : (mcn (ownT m), a, q.2.1, host) ∈ mNL := hN
            rw [← kT_cls hm] at hN
            split at e
            · next as rest e4 =>
              obtain ⟨s1, s2⟩ := zspl_of e4
              cases e5 : Nat.ble (zcats rest) 8 with
              | false => rw [e5] at e; cases e
              | true =>
                rw [e5, cond_true] at e
                unfold xCon at e
                split at e
                next es k2 e7 =>
                split at e
                next gs k9 e9 =>
                have hq' := hq
                rw [← beqN c1] at hq'
                obtain ⟨Q', hM, kq⟩ := xCon2_of gk (hct j d hc) hq' I (fun q hq => by rw [s1]; exact List.mem_append_right _ hq) e kk
                have mf := mtab_ok q (List.mem_of_getElem? hq)
                obtain ⟨g1, g2, g3, g4, g5, g6⟩ := mf
                have eS : zSk ρ s.2.1 = (zSk ρ as).reverse ++ zSk ρ rest := by
                  rw [s1]
                  unfold zSk
                  rw [List.map_append, List.map_reverse]
                have hn' : q.2.2.2.1 = (zSk ρ as).length := by
                  unfold zSk
                  rw [List.length_map, s2]
                rw [← beqN o2] at kq
                exact m_invokestaticN (okT_of o1) (fitB_of c2).2 g1 ⟨hN, g5 (beqN c3)⟩ ⟨trivial, g4.1, g4.2.1, by rw [← hn']; exact g4.2.2⟩ (fitB_of c2).1 (by rw [zcats_of]; exact bleN e5) eS hb.1 hb.2 hM kq
            · cases e
        · cases e
      · cases e
    · cases e
  · cases e
end EX
theorem m_idivX {K : mK} {Qr : MO → MH → Prop} {mc ms pc : Nat} {L : List (Nat × MV)} {S : List MV} {h : MH} (hd : decode K.2.2.1 pc = .ok (.idiv, 1)) {x y : Int} (hy : y ≠ 0) (k : MW K Qr mc ms (pc + 1) L ((0, (Int32.ofInt x / Int32.ofInt y).toInt) :: S) h) : MW K Qr mc ms pc L ((0, y) :: (0, x) :: S) h :=
  m_st _ (fun oL o => mokS_i (mI_rng _) (mokS_cons.mp (mokS_cons.mp o).2).2) (fun ad p l e R s m args below meth c H locs cells slots Q ls hx hb hl hown hts oL oS kk => lv_idiv hx hb hd (mI_ne0 (mok_i (mokS_cons.mp oS).1) hy) (by rw [← Int32.ofInt_toInt (_ / _)]; exact kk)) k
theorem m_ldivX {K : mK} {Qr : MO → MH → Prop} {mc ms pc : Nat} {L : List (Nat × MV)} {S : List MV} {h : MH} (hd : decode K.2.2.1 pc = .ok (.ldiv, 1)) {x y : Int} (hy : y ≠ 0) (k : MW K Qr mc ms (pc + 1) L ((1, (Int64.ofInt x / Int64.ofInt y).toInt) :: S) h) : MW K Qr mc ms pc L ((1, y) :: (1, x) :: S) h :=
  m_st _ (fun oL o => mokS_l (mL_rng _) (mokS_cons.mp (mokS_cons.mp o).2).2) (fun ad p l e R s m args below meth c H locs cells slots Q ls hx hb hl hown hts oL oS kk => lv_ldiv hx hb hd (mL_ne0 (mok_l (mokS_cons.mp oS).1) hy) (by rw [← Int64.ofInt_toInt (_ / _)]; exact kk)) k
/-- y is not 0 -/
def znz2 (F : List ZT) (D : List (List ZT)) (y : ZT) (k : List Nat) : Option (List Nat) := match k with
  | 0 :: k => (match rdC k with
    | (c, k) => bif zcert F c (zpl y (-1)) then some k else none)
  | 1 :: k => (match rdC k with
    | (c, k) => bif zcert F c (zpl (zsm (-1) y) (-1)) then some k else none)
  | 2 :: a :: k => (match zget D a with
    | some [u, v] => bif zeq u (zpl y (-1)) && zeq v (zpl (zsm (-1) y) (-1)) then some k else none
    | _ => none)
  | _ => none
theorem znz2_of {F : List ZT} {D : List (List ZT)} {ρ : Nat → Int} (hF : ∀ f ∈ F, 0 ≤ zv ρ f) (hD : ∀ d ∈ D, ∃ f ∈ d, 0 ≤ zv ρ f) {y : ZT} {k k' : List Nat} (e : znz2 F D y k = some k') : zv ρ y ≠ 0 := by
  unfold znz2 at e
  split at e
  · split at e
    next c k1 e1 =>
    cases w : zcert F c (zpl y (-1)) with
    | false => rw [w] at e; cases e
    | true =>
      have := zcert_of hF w
      rw [zpl_v] at this
      omega
  · split at e
    next c k1 e1 =>
    cases w : zcert F c (zpl (zsm (-1) y) (-1)) with
    | false => rw [w] at e; cases e
    | true =>
      have := zcert_of hF w
      rw [zpl_v, zsm_v] at this
      omega
  · split at e
    · next u v hd =>
      cases w : (zeq u (zpl y (-1)) && zeq v (zpl (zsm (-1) y) (-1))) with
      | false => rw [w] at e; cases e
      | true =>
        obtain ⟨w1, w2⟩ := andB w
        obtain ⟨f, mf, p⟩ := hD _ (zget_mem hd)
        rcases List.mem_cons.mp mf with z | z
        · rw [z, zeq_of w1, zpl_v] at p
          omega
        · rw [List.mem_singleton.mp z, zeq_of w2, zpl_v, zsm_v] at p
          omega
    · cases e
  · cases e
/-- division by what isn't 0 -/
def xSp (lo i : Nat) (mi : MI) (s : ZSt) (k : List Nat) : ZO := match s.2.1 with
  | y :: _ :: _ => (match znz2 s.2.2.1 s.2.2.2.1 y.2 k with
    | some k => bif Nat.beq mi.2.1 20 || Nat.beq mi.2.1 21 then one' i (xNew lo 0 [0, 0] (rngF 0) s k) else bif Nat.beq mi.2.1 22 || Nat.beq mi.2.1 23 then one' i (xNew lo 1 [1, 1] (rngF 1) s k) else none
    | none => none)
  | _ => none
section SP
variable {G : ZG} {T : ZTab} {M : List ZR} {Q : MO → MH → Prop} {h0 : MH} {mc ms m lo i : Nat} {s : ZSt} {ρ : Nat → Int} {h : MH} {ss : List (Nat × ZSt)} {k k' : List Nat}
theorem xSp_of (hm : m < 821) {mi : MI} (hi : (pgT m).1[i]? = some mi) (I : Inv G T M h0 ρ h s) (e : xSp lo i mi s k = some (ss, k')) (kk : ∀ q ∈ ss, q.1 = i + 1 → Go G T M (pgT m) (kT m) Q mc ms h0 lo ρ q.1 q.2) : MW (kT m) Q mc ms (pcA (pgT m) i) (zL ρ s.1) (zSk ρ s.2.1) h := by
  have ok := (okP_at (pgT_ok0 m hm) hi).1
  obtain ⟨pc, op, z, a, b, c⟩ := mi
  have hp : pcA (pgT m) i = pc := by
    unfold pcA
    rw [hi]
  unfold xSp at e
  split at e
  · next y x0 rest0 hS =>
    split at e
    · next k1 e1 =>
      have ny := znz2_of I.1.1 I.1.2.1 e1
      cases w : (Nat.beq op 20 || Nat.beq op 21) with
      | true =>
        replace e : (bif (Nat.beq op 20 || Nat.beq op 21) then one' i (xNew lo 0 [0, 0] (rngF 0) s k1) else bif Nat.beq op 22 || Nat.beq op 23 then one' i (xNew lo 1 [1, 1] (rngF 1) s k1) else none) = some (ss, k') := e
        rw [w, cond_true] at e
        obtain ⟨s', e3, rfl⟩ := one'_of e
        obtain ⟨rest, hr, hv⟩ := xNew_of I.1 e3
        obtain ⟨yy, xx, hS2⟩ := zpre2 hr
        rw [hS2] at hS
        cases hS
        rw [hS2, hp]
        have fin : ∀ v : Int, MW (kT m) Q mc ms (pcA (pgT m) (i + 1)) (zL ρ s.1) ((0, v) :: zSk ρ rest0) h := fun v => by
          refine m_okS fun _ oS2 => ?_
          have mz := (mokS_cons.mp oS2).1
          exact goV I.2.1 I.2.2 (hv v fun ρ' t ht _ => rngF_of (tag := 0) (by rw [ht]; exact mz.1) (by rw [ht]; exact mz.2)) (kk _ List.mem_cons_self rfl)
        rw [Bool.or_eq_true] at w
        rcases w with w | w
        · have w := beqN w
          subst w
          have d := okD_of (K := kT m) (P := pgT m) (i := i) (pc := pc) (n := 1) (s := .idiv) ok
          have f := fin (Int32.ofInt (zv ρ xx) / Int32.ofInt (zv ρ yy)).toInt
          rw [← d.2] at f
          exact m_idivX d.1 ny f
        · have w := beqN w
          subst w
          have d := okD_of (K := kT m) (P := pgT m) (i := i) (pc := pc) (n := 1) (s := .irem) ok
          exact m_irem _ d.1 d.2 ny (fin _)
      | false =>
        replace e : (bif (Nat.beq op 20 || Nat.beq op 21) then one' i (xNew lo 0 [0, 0] (rngF 0) s k1) else bif Nat.beq op 22 || Nat.beq op 23 then one' i (xNew lo 1 [1, 1] (rngF 1) s k1) else none) = some (ss, k') := e
        rw [w, cond_false] at e
        cases w2 : (Nat.beq op 22 || Nat.beq op 23) with
        | false => rw [w2] at e; cases e
        | true =>
          rw [w2, cond_true] at e
          obtain ⟨s', e3, rfl⟩ := one'_of e
          obtain ⟨rest, hr, hv⟩ := xNew_of I.1 e3
          obtain ⟨yy, xx, hS2⟩ := zpre2 hr
          rw [hS2] at hS
          cases hS
          rw [hS2, hp]
          have fin : ∀ v : Int, MW (kT m) Q mc ms (pcA (pgT m) (i + 1)) (zL ρ s.1) ((1, v) :: zSk ρ rest0) h := fun v => by
            refine m_okS fun _ oS2 => ?_
            have mz := (mokS_cons.mp oS2).1
            exact goV I.2.1 I.2.2 (hv v fun ρ' t ht _ => rngF_of (tag := 1) (by rw [ht]; exact mz.1) (by rw [ht]; exact mz.2)) (kk _ List.mem_cons_self rfl)
          rw [Bool.or_eq_true] at w2
          rcases w2 with w2 | w2
          · have w2 := beqN w2
            subst w2
            have d := okD_of (K := kT m) (P := pgT m) (i := i) (pc := pc) (n := 1) (s := .ldiv) ok
            have f := fin (Int64.ofInt (zv ρ xx) / Int64.ofInt (zv ρ yy)).toInt
            rw [← d.2] at f
            exact m_ldivX d.1 ny f
          · have w2 := beqN w2
            subst w2
            have d := okD_of (K := kT m) (P := pgT m) (i := i) (pc := pc) (n := 1) (s := .lrem) ok
            exact m_lrem _ d.1 d.2 ny (fin _)
    · cases e
  · cases e
end SP

