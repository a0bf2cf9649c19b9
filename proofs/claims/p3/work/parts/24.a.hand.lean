/-! by hand: one rule an instruction, over the rows of numbers; heaps read and written by whole numbers -/
def ga (h : MH) (c : Nat) (i : Int) : Int := (h.2 c).2.2 i.toNat
def sa (h : MH) (c : Nat) (i v : Int) : MH := hset h c i.toNat v
theorem sa_1 (h : MH) (c : Nat) (i v : Int) : (sa h c i v).1 = h.1 := rfl
theorem sa_kd (h : MH) (c : Nat) (i v : Int) (d : Nat) : ((sa h c i v).2 d).1 = (h.2 d).1 ∧ ((sa h c i v).2 d).2.1 = (h.2 d).2.1 := by
  unfold sa hset
  show ((if d = c then _ else _ : MC)).1 = _ ∧ ((if d = c then _ else _ : MC)).2.1 = _
  split
  · next e => rw [e]; exact ⟨rfl, rfl⟩
  · exact ⟨rfl, rfl⟩
theorem sa_ne (h : MH) (c : Nat) (i v : Int) {d : Nat} (e : d ≠ c) : (sa h c i v).2 d = h.2 d := by
  unfold sa hset
  show (if d = c then _ else _ : MC) = _
  rw [if_neg e]
theorem ga_ne (h : MH) (c : Nat) (i v : Int) {d : Nat} (e : d ≠ c) (j : Int) : ga (sa h c i v) d j = ga h d j := by
  unfold ga
  rw [sa_ne h c i v e]
theorem ga_sa (h : MH) (c : Nat) {i : Int} (v : Int) (hi : 0 ≤ i) {j : Int} (hj : 0 ≤ j) : ga (sa h c i v) c j = if j = i then v else ga h c j := by
  unfold ga sa hset
  show ((if c = c then _ else _ : MC)).2.2 j.toNat = _
  rw [if_pos rfl]
  show (if j.toNat = i.toNat then v else _) = _
  have : (j.toNat = i.toNat) ↔ (j = i) := by omega
  simp only [this]
/-- cells (number, kind, length), places of references (cell, place, cell) -/
def Str (t : List (Nat × Nat × Nat)) (rf : List (Nat × Nat × Nat)) (h : MH) : Prop := (∀ q ∈ t, q.1 < h.1 ∧ (h.2 q.1).1 = q.2.1 ∧ (q.2.1 < 16 → (h.2 q.1).2.1 = q.2.2)) ∧ ∀ q ∈ rf, (h.2 q.1).2.2 q.2.1 = (q.2.2 : Int)
theorem Str.cell {t rf : List (Nat × Nat × Nat)} {h : MH} (g : Str t rf h) (i : Nat) {c k n : Nat} (e : t[i]? = some (c, k, n)) : c < h.1 ∧ (h.2 c).1 = k ∧ (k < 16 → (h.2 c).2.1 = n) := g.1 _ (List.mem_of_getElem? e)
theorem Str.ref {t rf : List (Nat × Nat × Nat)} {h : MH} (g : Str t rf h) (i : Nat) {c k n : Nat} (e : rf[i]? = some (c, k, n)) : (h.2 c).2.2 k = (n : Int) := g.2 _ (List.mem_of_getElem? e)
/-- of h, only cells in cs changed, and these as to what they hold -/
def Only (cs : List Nat) (h h' : MH) : Prop := h'.1 = h.1 ∧ (∀ d, (h'.2 d).1 = (h.2 d).1 ∧ (h'.2 d).2.1 = (h.2 d).2.1) ∧ ∀ d, d ∉ cs → h'.2 d = h.2 d
theorem Only.refl (cs : List Nat) (h : MH) : Only cs h h := ⟨rfl, fun _ => ⟨rfl, rfl⟩, fun _ _ => rfl⟩
theorem Only.trans {cs : List Nat} {h h' h'' : MH} (a : Only cs h h') (b : Only cs h' h'') : Only cs h h'' := ⟨b.1.trans a.1, fun d => ⟨(b.2.1 d).1.trans (a.2.1 d).1, (b.2.1 d).2.trans (a.2.1 d).2⟩, fun d n => (b.2.2 d n).trans (a.2.2 d n)⟩
theorem Only.set {cs : List Nat} {h h' : MH} (a : Only cs h h') {c : Nat} {i v : Int} (m : c ∈ cs) : Only cs h (sa h' c i v) := a.trans ⟨rfl, fun d => sa_kd h' c i v d, fun d n => sa_ne h' c i v fun e => n (e ▸ m)⟩
theorem Only.mono {cs ds : List Nat} {h h' : MH} (a : Only cs h h') (s : ∀ c ∈ cs, c ∈ ds) : Only ds h h' := ⟨a.1, a.2.1, fun d n => a.2.2 d fun m => n (s d m)⟩
theorem Only.ga {cs : List Nat} {h h' : MH} (a : Only cs h h') {d : Nat} (n : d ∉ cs) (j : Int) : ga h' d j = ga h d j := by
  show (h'.2 d).2.2 j.toNat = (h.2 d).2.2 j.toNat
  rw [a.2.2 d n]
theorem Str.only {t rf : List (Nat × Nat × Nat)} {cs : List Nat} {h h' : MH} (g : Str t rf h) (a : Only cs h h') (n : ∀ q ∈ rf, q.1 ∉ cs) : Str t rf h' := ⟨fun q m => ⟨by rw [a.1]; exact (g.1 q m).1, by rw [(a.2.1 q.1).1]; exact (g.1 q m).2.1, fun l => by rw [(a.2.1 q.1).2]; exact (g.1 q m).2.2 l⟩, fun q m => by rw [a.2.2 q.1 (n q m)]; exact g.2 q m⟩
theorem Str.setA {t rf : List (Nat × Nat × Nat)} {h : MH} (g : Str t rf h) {c : Nat} {i v : Int} (n : (rf.all fun q => !(Nat.beq q.1 c)) = true) : Str t rf (sa h c i v) := by
  refine ⟨fun q m => ?_, fun q m => ?_⟩
  · have k := g.1 q m
    have e := sa_kd h c i v q.1
    exact ⟨k.1, by rw [e.1]; exact k.2.1, fun l => by rw [e.2]; exact k.2.2 l⟩
  · have := List.all_eq_true.mp n q m
    have ne : q.1 ≠ c := fun e => by
      rw [e, Nat.beq_refl] at this
      cases this
    rw [sa_ne h c i v ne]
    exact g.2 q m
theorem Str.setF {t rf : List (Nat × Nat × Nat)} {h : MH} (g : Str t rf h) {c : Nat} {i v : Int} (n : (rf.all fun q => !(Nat.beq q.1 c && Nat.beq q.2.1 i.toNat)) = true) : Str t rf (sa h c i v) := by
  refine ⟨fun q m => ?_, fun q m => ?_⟩
  · have k := g.1 q m
    have e := sa_kd h c i v q.1
    exact ⟨k.1, by rw [e.1]; exact k.2.1, fun l => by rw [e.2]; exact k.2.2 l⟩
  · have := List.all_eq_true.mp n q m
    rw [← g.2 q m]
    unfold sa hset
    show ((if q.1 = c then _ else _ : MC)).2.2 q.2.1 = _
    split
    · next e =>
      show (if q.2.1 = i.toNat then v else _) = _
      split
      · next e2 =>
        rw [e, e2, Nat.beq_refl, Nat.beq_refl] at this
        cases this
      · rw [e]
    · rfl
section HD
variable {K : mK} {o : Nat} {P : MP} {i pc : Nat} {zz : Int} {aa bb cc : Nat} {L : List (Nat × MV)} {S : List MV} {h : MH} {Q : MO → MH → Prop} {mc ms : Nat}
theorem hd_ipush (ok : okP K o P = true) {z : Int} (hi : P.1[i]? = some (pc, 1, z, aa, bb, cc)) (k : MW K Q mc ms (pcA P (i + 1)) L ((0, z) :: S) h) : MW K Q mc ms (pcA P i) L S h := so1 ok hi k
theorem hd_lpush (ok : okP K o P = true) {z : Int} (hi : P.1[i]? = some (pc, 2, z, aa, bb, cc)) (k : MW K Q mc ms (pcA P (i + 1)) L ((1, z) :: S) h) : MW K Q mc ms (pcA P i) L S h := so1 ok hi k
theorem hd_iload (ok : okP K o P = true) {a : Nat} {x : Int} (hi : P.1[i]? = some (pc, 3, zz, a, bb, cc)) (hl : mlook L a = some (0, x)) (k : MW K Q mc ms (pcA P (i + 1)) L ((0, x) :: S) h) : MW K Q mc ms (pcA P i) L S h := so1 ok hi (by
  show sLd 0 L a S (fun S => kMW K Q mc ms P (i + 1) L S h)
  unfold sLd
  rw [hl]
  exact ⟨rfl, fun e => absurd e (by decide), k⟩)
theorem hd_lload (ok : okP K o P = true) {a : Nat} {x : Int} (hi : P.1[i]? = some (pc, 4, zz, a, bb, cc)) (hl : mlook L a = some (1, x)) (k : MW K Q mc ms (pcA P (i + 1)) L ((1, x) :: S) h) : MW K Q mc ms (pcA P i) L S h := so1 ok hi (by
  show sLd 1 L a S (fun S => kMW K Q mc ms P (i + 1) L S h)
  unfold sLd
  rw [hl]
  exact ⟨rfl, fun e => absurd e (by decide), k⟩)
theorem hd_aload (ok : okP K o P = true) {a : Nat} {x : Int} (hi : P.1[i]? = some (pc, 5, zz, a, bb, cc)) (hl : mlook L a = some (2, x)) (h0 : 0 ≤ x) (k : MW K Q mc ms (pcA P (i + 1)) L ((2, x) :: S) h) : MW K Q mc ms (pcA P i) L S h := so1 ok hi (by
  show sLd 2 L a S (fun S => kMW K Q mc ms P (i + 1) L S h)
  unfold sLd
  rw [hl]
  exact ⟨rfl, fun _ => h0, k⟩)
theorem hd_istore (ok : okP K o P = true) {a : Nat} {x : Int} (hi : P.1[i]? = some (pc, 7, zz, a, bb, cc)) {L2 : List (Nat × MV)} (hL : mput L a (0, x) = L2) (k : MW K Q mc ms (pcA P (i + 1)) L2 S h) : MW K Q mc ms (pcA P i) L ((0, x) :: S) h := so1 ok hi ⟨rfl, by rw [hL]; exact k⟩
theorem hd_lstore (ok : okP K o P = true) {a : Nat} {x : Int} (hi : P.1[i]? = some (pc, 8, zz, a, bb, cc)) {L2 : List (Nat × MV)} (hL : mput2 L a (1, x) = L2) (k : MW K Q mc ms (pcA P (i + 1)) L2 S h) : MW K Q mc ms (pcA P i) L ((1, x) :: S) h := so1 ok hi ⟨rfl, by rw [hL]; exact k⟩
theorem hd_astore (ok : okP K o P = true) {a : Nat} {x : Int} (hi : P.1[i]? = some (pc, 9, zz, a, bb, cc)) (h0 : 0 ≤ x) {L2 : List (Nat × MV)} (hL : mput L a (2, x) = L2) (k : MW K Q mc ms (pcA P (i + 1)) L2 S h) : MW K Q mc ms (pcA P i) L ((2, x) :: S) h := so1 ok hi ⟨rfl, h0, by rw [hL]; exact k⟩
theorem hd_iinc (ok : okP K o P = true) {a : Nat} {x z : Int} (hi : P.1[i]? = some (pc, 11, z, a, bb, cc)) (hl : mlook L a = some (0, x)) (hr : -2147483648 ≤ x + z ∧ x + z ≤ 2147483647) {L2 : List (Nat × MV)} (hL : mput L a (0, x + z) = L2) (k : MW K Q mc ms (pcA P (i + 1)) L2 S h) : MW K Q mc ms (pcA P i) L S h := so1 ok hi (by
  show (match mlook L a with
    | some v => v.1 = 0 ∧ kMW K Q mc ms P (i + 1) (mput L a (0, wrI (v.2 + z))) S h
    | none => False)
  rw [hl]
  refine ⟨rfl, ?_⟩
  show kMW K Q mc ms P (i + 1) (mput L a (0, wrI (x + z))) S h
  rw [wrI_id hr, hL]
  exact k)
theorem hd_iadd (ok : okP K o P = true) {x y : Int} (hi : P.1[i]? = some (pc, 12, zz, aa, bb, cc)) (hr : -2147483648 ≤ x + y ∧ x + y ≤ 2147483647) (k : MW K Q mc ms (pcA P (i + 1)) L ((0, x + y) :: S) h) : MW K Q mc ms (pcA P i) L ((0, y) :: (0, x) :: S) h := so1 ok hi ⟨rfl, rfl, by
  show kMW K Q mc ms P (i + 1) L ((0, wrI (x + y)) :: S) h
  rw [wrI_id hr]
  exact k⟩
theorem hd_iaddW (ok : okP K o P = true) {x y : Int} (hi : P.1[i]? = some (pc, 12, zz, aa, bb, cc)) (k : MW K Q mc ms (pcA P (i + 1)) L ((0, wrI (x + y)) :: S) h) : MW K Q mc ms (pcA P i) L ((0, y) :: (0, x) :: S) h := so1 ok hi ⟨rfl, rfl, k⟩
theorem hd_isub (ok : okP K o P = true) {x y : Int} (hi : P.1[i]? = some (pc, 13, zz, aa, bb, cc)) (hr : -2147483648 ≤ x - y ∧ x - y ≤ 2147483647) (k : MW K Q mc ms (pcA P (i + 1)) L ((0, x - y) :: S) h) : MW K Q mc ms (pcA P i) L ((0, y) :: (0, x) :: S) h := so1 ok hi ⟨rfl, rfl, by
  show kMW K Q mc ms P (i + 1) L ((0, wrI (x - y)) :: S) h
  rw [wrI_id hr]
  exact k⟩
theorem hd_isubW (ok : okP K o P = true) {x y : Int} (hi : P.1[i]? = some (pc, 13, zz, aa, bb, cc)) (k : MW K Q mc ms (pcA P (i + 1)) L ((0, wrI (x - y)) :: S) h) : MW K Q mc ms (pcA P i) L ((0, y) :: (0, x) :: S) h := so1 ok hi ⟨rfl, rfl, k⟩
theorem hd_imul (ok : okP K o P = true) {x y : Int} (hi : P.1[i]? = some (pc, 14, zz, aa, bb, cc)) (hr : -2147483648 ≤ x * y ∧ x * y ≤ 2147483647) (k : MW K Q mc ms (pcA P (i + 1)) L ((0, x * y) :: S) h) : MW K Q mc ms (pcA P i) L ((0, y) :: (0, x) :: S) h := so1 ok hi ⟨rfl, rfl, by
  show kMW K Q mc ms P (i + 1) L ((0, wrI (x * y)) :: S) h
  rw [wrI_id hr]
  exact k⟩
theorem hd_imulW (ok : okP K o P = true) {x y : Int} (hi : P.1[i]? = some (pc, 14, zz, aa, bb, cc)) (k : MW K Q mc ms (pcA P (i + 1)) L ((0, wrI (x * y)) :: S) h) : MW K Q mc ms (pcA P i) L ((0, y) :: (0, x) :: S) h := so1 ok hi ⟨rfl, rfl, k⟩
theorem hd_ladd (ok : okP K o P = true) {x y : Int} (hi : P.1[i]? = some (pc, 16, zz, aa, bb, cc)) (hr : -9223372036854775808 ≤ x + y ∧ x + y ≤ 9223372036854775807) (k : MW K Q mc ms (pcA P (i + 1)) L ((1, x + y) :: S) h) : MW K Q mc ms (pcA P i) L ((1, y) :: (1, x) :: S) h := so1 ok hi ⟨rfl, rfl, by
  show kMW K Q mc ms P (i + 1) L ((1, wrL (x + y)) :: S) h
  rw [wrL_id hr]
  exact k⟩
theorem hd_laddW (ok : okP K o P = true) {x y : Int} (hi : P.1[i]? = some (pc, 16, zz, aa, bb, cc)) (k : MW K Q mc ms (pcA P (i + 1)) L ((1, wrL (x + y)) :: S) h) : MW K Q mc ms (pcA P i) L ((1, y) :: (1, x) :: S) h := so1 ok hi ⟨rfl, rfl, k⟩
theorem hd_lsub (ok : okP K o P = true) {x y : Int} (hi : P.1[i]? = some (pc, 17, zz, aa, bb, cc)) (hr : -9223372036854775808 ≤ x - y ∧ x - y ≤ 9223372036854775807) (k : MW K Q mc ms (pcA P (i + 1)) L ((1, x - y) :: S) h) : MW K Q mc ms (pcA P i) L ((1, y) :: (1, x) :: S) h := so1 ok hi ⟨rfl, rfl, by
  show kMW K Q mc ms P (i + 1) L ((1, wrL (x - y)) :: S) h
  rw [wrL_id hr]
  exact k⟩
theorem hd_lsubW (ok : okP K o P = true) {x y : Int} (hi : P.1[i]? = some (pc, 17, zz, aa, bb, cc)) (k : MW K Q mc ms (pcA P (i + 1)) L ((1, wrL (x - y)) :: S) h) : MW K Q mc ms (pcA P i) L ((1, y) :: (1, x) :: S) h := so1 ok hi ⟨rfl, rfl, k⟩
theorem hd_lmul (ok : okP K o P = true) {x y : Int} (hi : P.1[i]? = some (pc, 18, zz, aa, bb, cc)) (hr : -9223372036854775808 ≤ x * y ∧ x * y ≤ 9223372036854775807) (k : MW K Q mc ms (pcA P (i + 1)) L ((1, x * y) :: S) h) : MW K Q mc ms (pcA P i) L ((1, y) :: (1, x) :: S) h := so1 ok hi ⟨rfl, rfl, by
  show kMW K Q mc ms P (i + 1) L ((1, wrL (x * y)) :: S) h
  rw [wrL_id hr]
  exact k⟩
theorem hd_lmulW (ok : okP K o P = true) {x y : Int} (hi : P.1[i]? = some (pc, 18, zz, aa, bb, cc)) (k : MW K Q mc ms (pcA P (i + 1)) L ((1, wrL (x * y)) :: S) h) : MW K Q mc ms (pcA P i) L ((1, y) :: (1, x) :: S) h := so1 ok hi ⟨rfl, rfl, k⟩
theorem hd_ineg (ok : okP K o P = true) {x : Int} (hi : P.1[i]? = some (pc, 15, zz, aa, bb, cc)) (hr : -2147483648 ≤ -x ∧ -x ≤ 2147483647) (k : MW K Q mc ms (pcA P (i + 1)) L ((0, -x) :: S) h) : MW K Q mc ms (pcA P i) L ((0, x) :: S) h := so1 ok hi ⟨rfl, by
  show kMW K Q mc ms P (i + 1) L ((0, wrI (-x)) :: S) h
  rw [wrI_id hr]
  exact k⟩
theorem hd_lneg (ok : okP K o P = true) {x : Int} (hi : P.1[i]? = some (pc, 19, zz, aa, bb, cc)) (hr : -9223372036854775808 ≤ -x ∧ -x ≤ 9223372036854775807) (k : MW K Q mc ms (pcA P (i + 1)) L ((1, -x) :: S) h) : MW K Q mc ms (pcA P i) L ((1, x) :: S) h := so1 ok hi ⟨rfl, by
  show kMW K Q mc ms P (i + 1) L ((1, wrL (-x)) :: S) h
  rw [wrL_id hr]
  exact k⟩
theorem hd_idiv (ok : okP K o P = true) {x y : Int} (hi : P.1[i]? = some (pc, 20, zz, aa, bb, cc)) (h0 : y ≠ 0) (hr : -2147483648 ≤ x.tdiv y ∧ x.tdiv y ≤ 2147483647) (k : MW K Q mc ms (pcA P (i + 1)) L ((0, x.tdiv y) :: S) h) : MW K Q mc ms (pcA P i) L ((0, y) :: (0, x) :: S) h := so1 ok hi ⟨rfl, rfl, h0, hr, k⟩
theorem hd_irem (ok : okP K o P = true) {x y : Int} (hi : P.1[i]? = some (pc, 21, zz, aa, bb, cc)) (h0 : y ≠ 0) (hr : -2147483648 ≤ x.tmod y ∧ x.tmod y ≤ 2147483647) (k : MW K Q mc ms (pcA P (i + 1)) L ((0, x.tmod y) :: S) h) : MW K Q mc ms (pcA P i) L ((0, y) :: (0, x) :: S) h := so1 ok hi ⟨rfl, rfl, h0, hr, k⟩
theorem hd_ldiv (ok : okP K o P = true) {x y : Int} (hi : P.1[i]? = some (pc, 22, zz, aa, bb, cc)) (h0 : y ≠ 0) (hr : -9223372036854775808 ≤ x.tdiv y ∧ x.tdiv y ≤ 9223372036854775807) (k : MW K Q mc ms (pcA P (i + 1)) L ((1, x.tdiv y) :: S) h) : MW K Q mc ms (pcA P i) L ((1, y) :: (1, x) :: S) h := so1 ok hi ⟨rfl, rfl, h0, hr, k⟩
theorem hd_lrem (ok : okP K o P = true) {x y : Int} (hi : P.1[i]? = some (pc, 23, zz, aa, bb, cc)) (h0 : y ≠ 0) (hr : -9223372036854775808 ≤ x.tmod y ∧ x.tmod y ≤ 9223372036854775807) (k : MW K Q mc ms (pcA P (i + 1)) L ((1, x.tmod y) :: S) h) : MW K Q mc ms (pcA P i) L ((1, y) :: (1, x) :: S) h := so1 ok hi ⟨rfl, rfl, h0, hr, k⟩
theorem hd_iand (ok : okP K o P = true) {x y v : Int} (hi : P.1[i]? = some (pc, 24, zz, aa, bb, cc)) (hv : (Int32.ofInt x &&& Int32.ofInt y).toInt = v) (k : MW K Q mc ms (pcA P (i + 1)) L ((0, v) :: S) h) : MW K Q mc ms (pcA P i) L ((0, y) :: (0, x) :: S) h := so1 ok hi ⟨rfl, rfl, by subst hv; exact k⟩
theorem hd_ior (ok : okP K o P = true) {x y v : Int} (hi : P.1[i]? = some (pc, 25, zz, aa, bb, cc)) (hv : (Int32.ofInt x ||| Int32.ofInt y).toInt = v) (k : MW K Q mc ms (pcA P (i + 1)) L ((0, v) :: S) h) : MW K Q mc ms (pcA P i) L ((0, y) :: (0, x) :: S) h := so1 ok hi ⟨rfl, rfl, by subst hv; exact k⟩
theorem hd_land (ok : okP K o P = true) {x y v : Int} (hi : P.1[i]? = some (pc, 27, zz, aa, bb, cc)) (hv : (Int64.ofInt x &&& Int64.ofInt y).toInt = v) (k : MW K Q mc ms (pcA P (i + 1)) L ((1, v) :: S) h) : MW K Q mc ms (pcA P i) L ((1, y) :: (1, x) :: S) h := so1 ok hi ⟨rfl, rfl, by subst hv; exact k⟩
theorem hd_lor (ok : okP K o P = true) {x y v : Int} (hi : P.1[i]? = some (pc, 28, zz, aa, bb, cc)) (hv : (Int64.ofInt x ||| Int64.ofInt y).toInt = v) (k : MW K Q mc ms (pcA P (i + 1)) L ((1, v) :: S) h) : MW K Q mc ms (pcA P i) L ((1, y) :: (1, x) :: S) h := so1 ok hi ⟨rfl, rfl, by subst hv; exact k⟩
theorem hd_ishl (ok : okP K o P = true) {x y v : Int} (hi : P.1[i]? = some (pc, 30, zz, aa, bb, cc)) (hv : (Int32.ofInt x <<< (Int32.ofInt y &&& 31)).toInt = v) (k : MW K Q mc ms (pcA P (i + 1)) L ((0, v) :: S) h) : MW K Q mc ms (pcA P i) L ((0, y) :: (0, x) :: S) h := so1 ok hi ⟨rfl, rfl, by subst hv; exact k⟩
theorem hd_ishr (ok : okP K o P = true) {x y v : Int} (hi : P.1[i]? = some (pc, 31, zz, aa, bb, cc)) (hv : (Int32.ofInt x >>> (Int32.ofInt y &&& 31)).toInt = v) (k : MW K Q mc ms (pcA P (i + 1)) L ((0, v) :: S) h) : MW K Q mc ms (pcA P i) L ((0, y) :: (0, x) :: S) h := so1 ok hi ⟨rfl, rfl, by subst hv; exact k⟩
theorem hd_lshl (ok : okP K o P = true) {x y v : Int} (hi : P.1[i]? = some (pc, 32, zz, aa, bb, cc)) (hv : (Int64.ofInt x <<< ((Int32.ofInt y).toInt64 &&& 63)).toInt = v) (k : MW K Q mc ms (pcA P (i + 1)) L ((1, v) :: S) h) : MW K Q mc ms (pcA P i) L ((0, y) :: (1, x) :: S) h := so1 ok hi ⟨rfl, rfl, by subst hv; exact k⟩
theorem hd_lshr (ok : okP K o P = true) {x y v : Int} (hi : P.1[i]? = some (pc, 33, zz, aa, bb, cc)) (hv : (Int64.ofInt x >>> ((Int32.ofInt y).toInt64 &&& 63)).toInt = v) (k : MW K Q mc ms (pcA P (i + 1)) L ((1, v) :: S) h) : MW K Q mc ms (pcA P i) L ((0, y) :: (1, x) :: S) h := so1 ok hi ⟨rfl, rfl, by subst hv; exact k⟩
theorem hd_i2l (ok : okP K o P = true) {x : Int} (hi : P.1[i]? = some (pc, 35, zz, aa, bb, cc)) (k : MW K Q mc ms (pcA P (i + 1)) L ((1, x) :: S) h) : MW K Q mc ms (pcA P i) L ((0, x) :: S) h := so1 ok hi ⟨rfl, k⟩
theorem hd_l2i (ok : okP K o P = true) {x : Int} (hi : P.1[i]? = some (pc, 36, zz, aa, bb, cc)) (hr : -2147483648 ≤ x ∧ x ≤ 2147483647) (k : MW K Q mc ms (pcA P (i + 1)) L ((0, x) :: S) h) : MW K Q mc ms (pcA P i) L ((1, x) :: S) h := so1 ok hi ⟨rfl, by
  show kMW K Q mc ms P (i + 1) L ((0, wrI x) :: S) h
  rw [wrI_id hr]
  exact k⟩
theorem hd_dup (ok : okP K o P = true) {u : MV} (hi : P.1[i]? = some (pc, 39, zz, aa, bb, cc)) (h1 : mcat u = 1) (k : MW K Q mc ms (pcA P (i + 1)) L (u :: u :: S) h) : MW K Q mc ms (pcA P i) L (u :: S) h := so1 ok hi ⟨h1, k⟩
theorem hd_pop (ok : okP K o P = true) {u : MV} (hi : P.1[i]? = some (pc, 40, zz, aa, bb, cc)) (h1 : mcat u = 1) (k : MW K Q mc ms (pcA P (i + 1)) L S h) : MW K Q mc ms (pcA P i) L (u :: S) h := so1 ok hi ⟨h1, k⟩
theorem hd_pop2 (ok : okP K o P = true) {u : MV} (hi : P.1[i]? = some (pc, 41, zz, aa, bb, cc)) (h1 : mcat u = 2) (k : MW K Q mc ms (pcA P (i + 1)) L S h) : MW K Q mc ms (pcA P i) L (u :: S) h := so1 ok hi ⟨h1, k⟩
theorem hd_dup_x1 (ok : okP K o P = true) {u v : MV} (hi : P.1[i]? = some (pc, 42, zz, aa, bb, cc)) (h1 : mcat u = 1) (h2 : mcat v = 1) (k : MW K Q mc ms (pcA P (i + 1)) L (u :: v :: u :: S) h) : MW K Q mc ms (pcA P i) L (u :: v :: S) h := so1 ok hi ⟨h1, h2, k⟩
theorem hd_dup_x2 (ok : okP K o P = true) {u v w : MV} (hi : P.1[i]? = some (pc, 43, zz, aa, bb, cc)) (h1 : mcat u = 1) (h2 : mcat v = 1) (h3 : mcat w = 1) (k : MW K Q mc ms (pcA P (i + 1)) L (u :: v :: w :: u :: S) h) : MW K Q mc ms (pcA P i) L (u :: v :: w :: S) h := so1 ok hi ⟨h1, h2, h3, k⟩
theorem hd_dup2 (ok : okP K o P = true) {u v : MV} (hi : P.1[i]? = some (pc, 44, zz, aa, bb, cc)) (h1 : mcat u = 1) (h2 : mcat v = 1) (k : MW K Q mc ms (pcA P (i + 1)) L (u :: v :: u :: v :: S) h) : MW K Q mc ms (pcA P i) L (u :: v :: S) h := so1 ok hi ⟨h1, h2, k⟩
theorem hd_goto (ok : okP K o P = true) {a : Nat} (hi : P.1[i]? = some (pc, 45, zz, a, bb, cc)) (k : MW K Q mc ms (pcA P a) L S h) : MW K Q mc ms (pcA P i) L S h := so1 ok hi k
theorem hd_if_eq (ok : okP K o P = true) {x : Int} {a : Nat} (hi : P.1[i]? = some (pc, 46, zz, a, 0, cc)) (kt : x = 0 → MW K Q mc ms (pcA P a) L S h) (kf : ¬ (x = 0) → MW K Q mc ms (pcA P (i + 1)) L S h) : MW K Q mc ms (pcA P i) L ((0, x) :: S) h := so1 ok hi ⟨rfl, kt, kf⟩
theorem hd_ic_eq (ok : okP K o P = true) {x y : Int} {a : Nat} (hi : P.1[i]? = some (pc, 47, zz, a, 0, cc)) (kt : x = y → MW K Q mc ms (pcA P a) L S h) (kf : ¬ (x = y) → MW K Q mc ms (pcA P (i + 1)) L S h) : MW K Q mc ms (pcA P i) L ((0, y) :: (0, x) :: S) h := so1 ok hi ⟨rfl, rfl, kt, kf⟩
theorem hd_lc_eq (ok : okP K o P = true) {x y : Int} {a : Nat} (hi : P.1[i]? = some (pc, 48, zz, a, 0, cc)) (kt : x = y → MW K Q mc ms (pcA P a) L S h) (kf : ¬ (x = y) → MW K Q mc ms (pcA P (i + 2)) L S h) : MW K Q mc ms (pcA P i) L ((1, y) :: (1, x) :: S) h := so1 ok hi ⟨rfl, rfl, kt, kf⟩
theorem hd_if_ne (ok : okP K o P = true) {x : Int} {a : Nat} (hi : P.1[i]? = some (pc, 46, zz, a, 1, cc)) (kt : x ≠ 0 → MW K Q mc ms (pcA P a) L S h) (kf : ¬ (x ≠ 0) → MW K Q mc ms (pcA P (i + 1)) L S h) : MW K Q mc ms (pcA P i) L ((0, x) :: S) h := so1 ok hi ⟨rfl, kt, kf⟩
theorem hd_ic_ne (ok : okP K o P = true) {x y : Int} {a : Nat} (hi : P.1[i]? = some (pc, 47, zz, a, 1, cc)) (kt : x ≠ y → MW K Q mc ms (pcA P a) L S h) (kf : ¬ (x ≠ y) → MW K Q mc ms (pcA P (i + 1)) L S h) : MW K Q mc ms (pcA P i) L ((0, y) :: (0, x) :: S) h := so1 ok hi ⟨rfl, rfl, kt, kf⟩
theorem hd_lc_ne (ok : okP K o P = true) {x y : Int} {a : Nat} (hi : P.1[i]? = some (pc, 48, zz, a, 1, cc)) (kt : x ≠ y → MW K Q mc ms (pcA P a) L S h) (kf : ¬ (x ≠ y) → MW K Q mc ms (pcA P (i + 2)) L S h) : MW K Q mc ms (pcA P i) L ((1, y) :: (1, x) :: S) h := so1 ok hi ⟨rfl, rfl, kt, kf⟩
theorem hd_if_lt (ok : okP K o P = true) {x : Int} {a : Nat} (hi : P.1[i]? = some (pc, 46, zz, a, 2, cc)) (kt : x < 0 → MW K Q mc ms (pcA P a) L S h) (kf : ¬ (x < 0) → MW K Q mc ms (pcA P (i + 1)) L S h) : MW K Q mc ms (pcA P i) L ((0, x) :: S) h := so1 ok hi ⟨rfl, kt, kf⟩
theorem hd_ic_lt (ok : okP K o P = true) {x y : Int} {a : Nat} (hi : P.1[i]? = some (pc, 47, zz, a, 2, cc)) (kt : x < y → MW K Q mc ms (pcA P a) L S h) (kf : ¬ (x < y) → MW K Q mc ms (pcA P (i + 1)) L S h) : MW K Q mc ms (pcA P i) L ((0, y) :: (0, x) :: S) h := so1 ok hi ⟨rfl, rfl, kt, kf⟩
theorem hd_lc_lt (ok : okP K o P = true) {x y : Int} {a : Nat} (hi : P.1[i]? = some (pc, 48, zz, a, 2, cc)) (kt : x < y → MW K Q mc ms (pcA P a) L S h) (kf : ¬ (x < y) → MW K Q mc ms (pcA P (i + 2)) L S h) : MW K Q mc ms (pcA P i) L ((1, y) :: (1, x) :: S) h := so1 ok hi ⟨rfl, rfl, kt, kf⟩
theorem hd_if_ge (ok : okP K o P = true) {x : Int} {a : Nat} (hi : P.1[i]? = some (pc, 46, zz, a, 3, cc)) (kt : 0 ≤ x → MW K Q mc ms (pcA P a) L S h) (kf : ¬ (0 ≤ x) → MW K Q mc ms (pcA P (i + 1)) L S h) : MW K Q mc ms (pcA P i) L ((0, x) :: S) h := so1 ok hi ⟨rfl, kt, kf⟩
theorem hd_ic_ge (ok : okP K o P = true) {x y : Int} {a : Nat} (hi : P.1[i]? = some (pc, 47, zz, a, 3, cc)) (kt : y ≤ x → MW K Q mc ms (pcA P a) L S h) (kf : ¬ (y ≤ x) → MW K Q mc ms (pcA P (i + 1)) L S h) : MW K Q mc ms (pcA P i) L ((0, y) :: (0, x) :: S) h := so1 ok hi ⟨rfl, rfl, kt, kf⟩
theorem hd_lc_ge (ok : okP K o P = true) {x y : Int} {a : Nat} (hi : P.1[i]? = some (pc, 48, zz, a, 3, cc)) (kt : y ≤ x → MW K Q mc ms (pcA P a) L S h) (kf : ¬ (y ≤ x) → MW K Q mc ms (pcA P (i + 2)) L S h) : MW K Q mc ms (pcA P i) L ((1, y) :: (1, x) :: S) h := so1 ok hi ⟨rfl, rfl, kt, kf⟩
theorem hd_if_gt (ok : okP K o P = true) {x : Int} {a : Nat} (hi : P.1[i]? = some (pc, 46, zz, a, 4, cc)) (kt : 0 < x → MW K Q mc ms (pcA P a) L S h) (kf : ¬ (0 < x) → MW K Q mc ms (pcA P (i + 1)) L S h) : MW K Q mc ms (pcA P i) L ((0, x) :: S) h := so1 ok hi ⟨rfl, kt, kf⟩
theorem hd_ic_gt (ok : okP K o P = true) {x y : Int} {a : Nat} (hi : P.1[i]? = some (pc, 47, zz, a, 4, cc)) (kt : y < x → MW K Q mc ms (pcA P a) L S h) (kf : ¬ (y < x) → MW K Q mc ms (pcA P (i + 1)) L S h) : MW K Q mc ms (pcA P i) L ((0, y) :: (0, x) :: S) h := so1 ok hi ⟨rfl, rfl, kt, kf⟩
theorem hd_lc_gt (ok : okP K o P = true) {x y : Int} {a : Nat} (hi : P.1[i]? = some (pc, 48, zz, a, 4, cc)) (kt : y < x → MW K Q mc ms (pcA P a) L S h) (kf : ¬ (y < x) → MW K Q mc ms (pcA P (i + 2)) L S h) : MW K Q mc ms (pcA P i) L ((1, y) :: (1, x) :: S) h := so1 ok hi ⟨rfl, rfl, kt, kf⟩
theorem hd_if_le (ok : okP K o P = true) {x : Int} {a : Nat} (hi : P.1[i]? = some (pc, 46, zz, a, 5, cc)) (kt : x ≤ 0 → MW K Q mc ms (pcA P a) L S h) (kf : ¬ (x ≤ 0) → MW K Q mc ms (pcA P (i + 1)) L S h) : MW K Q mc ms (pcA P i) L ((0, x) :: S) h := so1 ok hi ⟨rfl, kt, kf⟩
theorem hd_ic_le (ok : okP K o P = true) {x y : Int} {a : Nat} (hi : P.1[i]? = some (pc, 47, zz, a, 5, cc)) (kt : x ≤ y → MW K Q mc ms (pcA P a) L S h) (kf : ¬ (x ≤ y) → MW K Q mc ms (pcA P (i + 1)) L S h) : MW K Q mc ms (pcA P i) L ((0, y) :: (0, x) :: S) h := so1 ok hi ⟨rfl, rfl, kt, kf⟩
theorem hd_lc_le (ok : okP K o P = true) {x y : Int} {a : Nat} (hi : P.1[i]? = some (pc, 48, zz, a, 5, cc)) (kt : x ≤ y → MW K Q mc ms (pcA P a) L S h) (kf : ¬ (x ≤ y) → MW K Q mc ms (pcA P (i + 2)) L S h) : MW K Q mc ms (pcA P i) L ((1, y) :: (1, x) :: S) h := so1 ok hi ⟨rfl, rfl, kt, kf⟩
theorem hd_getR (ok : okP K o P = true) {ci j c n : Nat} (hi : P.1[i]? = some (pc, 49, zz, ci, j, 2)) (hc : c < h.1) (hk : (h.2 c).1 = 16 + ci) (hv : (h.2 c).2.2 j = (n : Int)) (k : MW K Q mc ms (pcA P (i + 1)) L ((2, (n : Int)) :: S) h) : MW K Q mc ms (pcA P i) L ((2, (c : Int)) :: S) h := so1 ok hi ⟨rfl, Int.natCast_nonneg c, hc, hk, fun _ => by
  have e : ((2, (h.2 (Int.toNat (c : Int))).2.2 j) : MV) = (2, (n : Int)) := congrArg (Prod.mk 2) hv
  show kMW K Q mc ms P (i + 1) L ((2, (h.2 (Int.toNat (c : Int))).2.2 j) :: S) h
  rw [e]
  exact k⟩
theorem hd_getI (ok : okP K o P = true) {ci j c : Nat} (hi : P.1[i]? = some (pc, 49, zz, ci, j, 0)) (hc : c < h.1) (hk : (h.2 c).1 = 16 + ci) (k : ∀ v, v = ga h c (j : Int) → (-2147483648 ≤ v ∧ v ≤ 2147483647) → MW K Q mc ms (pcA P (i + 1)) L ((0, v) :: S) h) : MW K Q mc ms (pcA P i) L ((2, (c : Int)) :: S) h := so1 ok hi ⟨rfl, Int.natCast_nonneg c, hc, hk, fun r => k _ rfl r⟩
theorem hd_getZ (ok : okP K o P = true) {ci j c : Nat} (hi : P.1[i]? = some (pc, 49, zz, ci, j, 4)) (hc : c < h.1) (hk : (h.2 c).1 = 16 + ci) (k : ∀ v, v = ga h c (j : Int) → (-2147483648 ≤ v ∧ v ≤ 2147483647) → MW K Q mc ms (pcA P (i + 1)) L ((0, v) :: S) h) : MW K Q mc ms (pcA P i) L ((2, (c : Int)) :: S) h := so1 ok hi ⟨rfl, Int.natCast_nonneg c, hc, hk, fun r => k _ rfl r⟩
theorem hd_getJ (ok : okP K o P = true) {ci j c : Nat} (hi : P.1[i]? = some (pc, 49, zz, ci, j, 1)) (hc : c < h.1) (hk : (h.2 c).1 = 16 + ci) (k : ∀ v, v = ga h c (j : Int) → (-9223372036854775808 ≤ v ∧ v ≤ 9223372036854775807) → MW K Q mc ms (pcA P (i + 1)) L ((1, v) :: S) h) : MW K Q mc ms (pcA P i) L ((2, (c : Int)) :: S) h := so1 ok hi ⟨rfl, Int.natCast_nonneg c, hc, hk, fun r => k _ rfl r⟩
theorem hd_putI (ok : okP K o P = true) {ci j c : Nat} {x : Int} (hi : P.1[i]? = some (pc, 50, zz, ci, j, 0)) (hc : c < h.1) (hk : (h.2 c).1 = 16 + ci) (k : ∀ h2, h2 = sa h c (j : Int) x → MW K Q mc ms (pcA P (i + 1)) L S h2) : MW K Q mc ms (pcA P i) L ((0, x) :: (2, (c : Int)) :: S) h := so1 ok hi ⟨rfl, rfl, Int.natCast_nonneg c, hc, hk, fun e => absurd (show (0 : Nat) = 4 from e) (by decide), k _ rfl⟩
theorem hd_putJ (ok : okP K o P = true) {ci j c : Nat} {x : Int} (hi : P.1[i]? = some (pc, 50, zz, ci, j, 1)) (hc : c < h.1) (hk : (h.2 c).1 = 16 + ci) (k : ∀ h2, h2 = sa h c (j : Int) x → MW K Q mc ms (pcA P (i + 1)) L S h2) : MW K Q mc ms (pcA P i) L ((1, x) :: (2, (c : Int)) :: S) h := so1 ok hi ⟨rfl, rfl, Int.natCast_nonneg c, hc, hk, fun e => absurd (show (1 : Nat) = 4 from e) (by decide), k _ rfl⟩
theorem hd_putZ (ok : okP K o P = true) {ci j c : Nat} {x : Int} (hi : P.1[i]? = some (pc, 50, zz, ci, j, 4)) (hc : c < h.1) (hk : (h.2 c).1 = 16 + ci) (hx : 0 ≤ x ∧ x ≤ 1) (k : ∀ h2, h2 = sa h c (j : Int) x → MW K Q mc ms (pcA P (i + 1)) L S h2) : MW K Q mc ms (pcA P i) L ((0, x) :: (2, (c : Int)) :: S) h := so1 ok hi ⟨rfl, rfl, Int.natCast_nonneg c, hc, hk, fun _ => hx, k _ rfl⟩
theorem hd_iald (ok : okP K o P = true) {c n : Nat} {x : Int} (hi : P.1[i]? = some (pc, 51, zz, aa, bb, cc)) (hc : c < h.1 ∧ (h.2 c).1 = 0 ∧ (0 < 16 → (h.2 c).2.1 = n)) (h0 : 0 ≤ x) (h1 : x < (n : Int)) (k : ∀ v, v = ga h c x → (-2147483648 ≤ v ∧ v ≤ 2147483647) → MW K Q mc ms (pcA P (i + 1)) L ((0, v) :: S) h) : MW K Q mc ms (pcA P i) L ((0, x) :: (2, (c : Int)) :: S) h := so1 ok hi ⟨rfl, rfl, ⟨Int.natCast_nonneg c, hc.1, h0, by rw [show (h.2 (Int.toNat (c : Int))).2.1 = n from hc.2.2 (by decide)]; exact h1⟩, hc.2.1, fun r => k _ rfl r⟩
theorem hd_lald (ok : okP K o P = true) {c n : Nat} {x : Int} (hi : P.1[i]? = some (pc, 52, zz, aa, bb, cc)) (hc : c < h.1 ∧ (h.2 c).1 = 1 ∧ (1 < 16 → (h.2 c).2.1 = n)) (h0 : 0 ≤ x) (h1 : x < (n : Int)) (k : ∀ v, v = ga h c x → (-9223372036854775808 ≤ v ∧ v ≤ 9223372036854775807) → MW K Q mc ms (pcA P (i + 1)) L ((1, v) :: S) h) : MW K Q mc ms (pcA P i) L ((0, x) :: (2, (c : Int)) :: S) h := so1 ok hi ⟨rfl, rfl, ⟨Int.natCast_nonneg c, hc.1, h0, by rw [show (h.2 (Int.toNat (c : Int))).2.1 = n from hc.2.2 (by decide)]; exact h1⟩, hc.2.1, fun r => k _ rfl r⟩
theorem hd_cald (ok : okP K o P = true) {c n : Nat} {x : Int} (hi : P.1[i]? = some (pc, 54, zz, aa, bb, cc)) (hc : c < h.1 ∧ (h.2 c).1 = 4 ∧ (4 < 16 → (h.2 c).2.1 = n)) (h0 : 0 ≤ x) (h1 : x < (n : Int)) (k : ∀ v, v = ga h c x → (0 ≤ v ∧ v ≤ 65535) → MW K Q mc ms (pcA P (i + 1)) L ((0, v) :: S) h) : MW K Q mc ms (pcA P i) L ((0, x) :: (2, (c : Int)) :: S) h := so1 ok hi ⟨rfl, rfl, ⟨Int.natCast_nonneg c, hc.1, h0, by rw [show (h.2 (Int.toNat (c : Int))).2.1 = n from hc.2.2 (by decide)]; exact h1⟩, hc.2.1, fun r => k _ rfl r⟩
theorem hd_zald (ok : okP K o P = true) {c n : Nat} {x : Int} (hi : P.1[i]? = some (pc, 53, zz, aa, bb, cc)) (hc : c < h.1 ∧ (h.2 c).1 = 2 ∧ (2 < 16 → (h.2 c).2.1 = n)) (h0 : 0 ≤ x) (h1 : x < (n : Int)) (k : ∀ v, v = ga h c x → (0 ≤ v ∧ v ≤ 1) → MW K Q mc ms (pcA P (i + 1)) L ((0, v) :: S) h) : MW K Q mc ms (pcA P i) L ((0, x) :: (2, (c : Int)) :: S) h := so1 ok hi (by
  have hcn : (h.2 (Int.toNat (c : Int))).1 = (h.2 c).1 := rfl
  show (if (h.2 (Int.toNat (c : Int))).1 = 2 then _ else _)
  rw [hcn]
  rw [if_pos hc.2.1]
  exact ⟨rfl, rfl, ⟨Int.natCast_nonneg c, hc.1, h0, by rw [show (h.2 (Int.toNat (c : Int))).2.1 = n from hc.2.2 (by decide)]; exact h1⟩, hc.2.1, fun r => k _ rfl r⟩)
theorem hd_bald (ok : okP K o P = true) {c n : Nat} {x : Int} (hi : P.1[i]? = some (pc, 53, zz, aa, bb, cc)) (hc : c < h.1 ∧ (h.2 c).1 = 3 ∧ (3 < 16 → (h.2 c).2.1 = n)) (h0 : 0 ≤ x) (h1 : x < (n : Int)) (k : ∀ v, v = ga h c x → (-128 ≤ v ∧ v ≤ 127) → MW K Q mc ms (pcA P (i + 1)) L ((0, v) :: S) h) : MW K Q mc ms (pcA P i) L ((0, x) :: (2, (c : Int)) :: S) h := so1 ok hi (by
  have hcn : (h.2 (Int.toNat (c : Int))).1 = (h.2 c).1 := rfl
  show (if (h.2 (Int.toNat (c : Int))).1 = 2 then _ else _)
  rw [hcn]
  rw [if_neg (fun e => absurd (hc.2.1.symm.trans e) (by decide))]
  exact ⟨rfl, rfl, ⟨Int.natCast_nonneg c, hc.1, h0, by rw [show (h.2 (Int.toNat (c : Int))).2.1 = n from hc.2.2 (by decide)]; exact h1⟩, hc.2.1, fun r => k _ rfl r⟩)
theorem hd_iast (ok : okP K o P = true) {c n : Nat} {x v : Int} (hi : P.1[i]? = some (pc, 56, zz, aa, bb, cc)) (hc : c < h.1 ∧ (h.2 c).1 = 0 ∧ (0 < 16 → (h.2 c).2.1 = n)) (h4 : 4 ≤ c) (h0 : 0 ≤ x) (h1 : x < (n : Int)) (k : ∀ h2, h2 = sa h c x v → MW K Q mc ms (pcA P (i + 1)) L S h2) : MW K Q mc ms (pcA P i) L ((0, v) :: (0, x) :: (2, (c : Int)) :: S) h := so1 ok hi ⟨rfl, rfl, rfl, ⟨Int.natCast_nonneg c, hc.1, h0, by rw [show (h.2 (Int.toNat (c : Int))).2.1 = n from hc.2.2 (by decide)]; exact h1⟩, h4, hc.2.1, fun a b => absurd rfl a, k _ rfl⟩
theorem hd_last (ok : okP K o P = true) {c n : Nat} {x v : Int} (hi : P.1[i]? = some (pc, 57, zz, aa, bb, cc)) (hc : c < h.1 ∧ (h.2 c).1 = 1 ∧ (1 < 16 → (h.2 c).2.1 = n)) (h4 : 4 ≤ c) (h0 : 0 ≤ x) (h1 : x < (n : Int)) (k : ∀ h2, h2 = sa h c x v → MW K Q mc ms (pcA P (i + 1)) L S h2) : MW K Q mc ms (pcA P i) L ((1, v) :: (0, x) :: (2, (c : Int)) :: S) h := so1 ok hi ⟨rfl, rfl, rfl, ⟨Int.natCast_nonneg c, hc.1, h0, by rw [show (h.2 (Int.toNat (c : Int))).2.1 = n from hc.2.2 (by decide)]; exact h1⟩, h4, hc.2.1, fun a b => absurd rfl b, k _ rfl⟩
theorem hd_zast (ok : okP K o P = true) {c n : Nat} {x v : Int} (hi : P.1[i]? = some (pc, 58, zz, aa, bb, cc)) (hc : c < h.1 ∧ (h.2 c).1 = 2 ∧ (2 < 16 → (h.2 c).2.1 = n)) (h4 : 4 ≤ c) (h0 : 0 ≤ x) (h1 : x < (n : Int)) (hv : 0 ≤ v ∧ v ≤ 1) (k : ∀ h2, h2 = sa h c x v → MW K Q mc ms (pcA P (i + 1)) L S h2) : MW K Q mc ms (pcA P i) L ((0, v) :: (0, x) :: (2, (c : Int)) :: S) h := so1 ok hi (by
  have hcn : (h.2 (Int.toNat (c : Int))).1 = (h.2 c).1 := rfl
  show (if (h.2 (Int.toNat (c : Int))).1 = 2 then _ else _)
  rw [hcn]
  rw [if_pos hc.2.1]
  exact ⟨rfl, rfl, rfl, ⟨Int.natCast_nonneg c, hc.1, h0, by rw [show (h.2 (Int.toNat (c : Int))).2.1 = n from hc.2.2 (by decide)]; exact h1⟩, h4, hc.2.1, fun _ _ => hv, k _ rfl⟩)
theorem hd_iret (ok : okP K o P = true) {x : Int} (hi : P.1[i]? = some (pc, 61, zz, 0, bb, cc)) (k : Q (1, (0, x)) h) : MW K Q mc ms (pcA P i) L [(0, x)] h := so1 ok hi ⟨rfl, fun e => absurd (show (0 : Nat) = 4 from e) (by decide), fun e => absurd (show (0 : Nat) = 5 from e) (by decide), k⟩
theorem hd_zret (ok : okP K o P = true) {x : Int} (hi : P.1[i]? = some (pc, 61, zz, 4, bb, cc)) (hx : 0 ≤ x ∧ x ≤ 1) (k : Q (1, (0, x)) h) : MW K Q mc ms (pcA P i) L [(0, x)] h := so1 ok hi ⟨rfl, fun _ => hx, fun e => absurd (show (4 : Nat) = 5 from e) (by decide), k⟩
theorem hd_lret (ok : okP K o P = true) {x : Int} (hi : P.1[i]? = some (pc, 62, zz, aa, bb, cc)) (k : Q (1, (1, x)) h) : MW K Q mc ms (pcA P i) L [(1, x)] h := so1 ok hi ⟨rfl, k⟩
theorem hd_vret (ok : okP K o P = true) (hi : P.1[i]? = some (pc, 63, zz, aa, bb, cc)) (k : Q (0, (0, 0)) h) : MW K Q mc ms (pcA P i) L [] h := so1 ok hi ⟨rfl, k⟩
/-- a method of an object is called -/
theorem hd_callV (ok : okP K o P = true) {a : Nat} (hi : P.1[i]? = some (pc, 67, zz, a, bb, cc)) {q : MR} (hq : mtab[a]? = some q) (hv : q.2.2.2.2 = 0) (hf : fitB K q.1 = true) {As rest : List MV} {c : Nat} (hS : S = As.reverse ++ (2, (c : Int)) :: rest) (hn : q.2.2.2.1 = As.length) (hw : (rest.map mcat).sum ≤ 8) (hc : c < h.1) (hk : (h.2 c).1 = 16 + q.2.2.1) {Q' : MO → MH → Prop} (hM : MCal q.1 q.2.1 0 0 ((2, (c : Int)) :: As) h Q')
    (kk : ∀ (r : MO) (h' : MH), Q' r h' → (r.1 = 0 → MW K Q mc ms (pcA P (i + 1)) L rest h') ∧ (r.1 = 1 → MW K Q mc ms (pcA P (i + 1)) L (r.2 :: rest) h')) : MW K Q mc ms (pcA P i) L S h := by
  have ok := okP_at ok hi
  have hp : pcA P i = pc := by
    unfold pcA
    rw [hi]
  obtain ⟨f1, f2⟩ := fitB_of hf
  have mf := mtab_ok q (List.mem_of_getElem? hq)
  obtain ⟨g1, g2, g3, g4, g5, g6⟩ := mf
  rw [hp]
  have o1 := and2 ok.1
  have d := okD_of o1.1
  obtain ⟨r', hr', hl⟩ := MT_ok o (zz.toNat, a) (List.contains_iff_mem.mp o1.2)
  have hr' : mtab[a]? = some r' := hr'
  rw [hq] at hr'
  cases hr'
  rw [← ok.2] at hl
  obtain ⟨s1, s2, T', N', s3⟩ := g6 hv
  have d2 : pc + 3 = pcA P (i + 1) := d.2
  rw [← d2] at kk
  exact m_invokevirtual d.1 f2 g1 s3 (r := (c : Int)) (Int.natCast_nonneg c) hc hk ⟨hl, s1, s2⟩ ⟨rfl, g4.1, g4.2.1, by rw [← hn]; exact g4.2.2⟩ f1 hw hS (Nat.zero_le _) (Nat.zero_le _) hM kk
/-- a method of the class alone -/
theorem hd_callS (ok : okP K o P = true) {a : Nat} (hi : P.1[i]? = some (pc, 68, zz, a, bb, cc)) {q : MR} (hq : mtab[a]? = some q) (hv : q.2.2.2.2 = 1) (hf : fitB K q.1 = true) {As rest : List MV} (hS : S = As.reverse ++ rest) (hn : q.2.2.2.1 = As.length) (hw : (rest.map mcat).sum ≤ 8) (hown : q.2.1.cls = K.2.1) {Q' : MO → MH → Prop} (hM : MCal q.1 q.2.1 0 0 As h Q')
    (kk : ∀ (r : MO) (h' : MH), Q' r h' → (r.1 = 0 → MW K Q mc ms (pcA P (i + 1)) L rest h') ∧ (r.1 = 1 → MW K Q mc ms (pcA P (i + 1)) L (r.2 :: rest) h')) : MW K Q mc ms (pcA P i) L S h := by
  have ok := okP_at ok hi
  have hp : pcA P i = pc := by
    unfold pcA
    rw [hi]
  obtain ⟨f1, f2⟩ := fitB_of hf
  have mf := mtab_ok q (List.mem_of_getElem? hq)
  obtain ⟨g1, g2, g3, g4, g5, g6⟩ := mf
  rw [hp]
  have o1 := and2 ok.1
  have d := okD_of o1.1
  obtain ⟨r', hr', hl⟩ := MT_ok o (zz.toNat, a) (List.contains_iff_mem.mp o1.2)
  have hr' : mtab[a]? = some r' := hr'
  rw [hq] at hr'
  cases hr'
  rw [← ok.2] at hl
  have d2 : pc + 3 = pcA P (i + 1) := d.2
  rw [← d2] at kk
  exact m_invokestatic d.1 f2 g1 ⟨hl, g5 hv⟩ ⟨hown, g4.1, g4.2.1, by rw [← hn]; exact g4.2.2⟩ f1 hw hS (Nat.zero_le _) (Nat.zero_le _) hM kk
end HD
section HDc
variable {K : mK} {P : MP} {j : Nat} {L : List (Nat × MV)} {S : List MV} {Q : MO → MH → Prop} {mc ms : Nat}
theorem hd_bI {R : Int → MH → Prop} (k : ∀ (v : Int) (h' : MH), R v h' → MW K Q mc ms (pcA P j) L ((0, v) :: S) h') (r : MO) (h' : MH) (q : mRI R r h') : (r.1 = 0 → MW K Q mc ms (pcA P j) L S h') ∧ (r.1 = 1 → MW K Q mc ms (pcA P j) L (r.2 :: S) h') := by
  obtain ⟨n, t, v⟩ := r
  obtain ⟨e1, e2, e3⟩ := q
  have e1 : n = 1 := e1
  have e2 : t = 0 := e2
  subst e1 e2
  exact ⟨fun z => absurd (show (1 : Nat) = 0 from z) (by decide), fun _ => k v h' e3⟩
theorem hd_bL {R : Int → MH → Prop} (k : ∀ (v : Int) (h' : MH), R v h' → MW K Q mc ms (pcA P j) L ((1, v) :: S) h') (r : MO) (h' : MH) (q : mRL R r h') : (r.1 = 0 → MW K Q mc ms (pcA P j) L S h') ∧ (r.1 = 1 → MW K Q mc ms (pcA P j) L (r.2 :: S) h') := by
  obtain ⟨n, t, v⟩ := r
  obtain ⟨e1, e2, e3⟩ := q
  have e1 : n = 1 := e1
  have e2 : t = 1 := e2
  subst e1 e2
  exact ⟨fun z => absurd (show (1 : Nat) = 0 from z) (by decide), fun _ => k v h' e3⟩
theorem hd_bV {R : MH → Prop} (k : ∀ (h' : MH), R h' → MW K Q mc ms (pcA P j) L S h') (r : MO) (h' : MH) (q : mRV R r h') : (r.1 = 0 → MW K Q mc ms (pcA P j) L S h') ∧ (r.1 = 1 → MW K Q mc ms (pcA P j) L (r.2 :: S) h') := by
  obtain ⟨n, t, v⟩ := r
  obtain ⟨e1, e3⟩ := q
  have e1 : n = 0 := e1
  subst e1
  exact ⟨fun _ => k h' e3, fun z => absurd (show (0 : Nat) = 1 from z) (by decide)⟩
theorem hd_locI {h : MH} {pc i : Nat} {x : Int} (hk : mlook L i = some (0, x)) (k : -2147483648 ≤ x ∧ x ≤ 2147483647 → MW K Q mc ms pc L S h) : MW K Q mc ms pc L S h := m_locI hk fun a b => k ⟨a, b⟩
theorem hd_locL {h : MH} {pc i : Nat} {x : Int} (hk : mlook L i = some (1, x)) (k : -9223372036854775808 ≤ x ∧ x ≤ 9223372036854775807 → MW K Q mc ms pc L S h) : MW K Q mc ms pc L S h := m_locL hk fun a b => k ⟨a, b⟩
end HDc
