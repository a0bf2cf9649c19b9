/-! fields and arrays -/
/-- the key of an index that lies in d -/
def keyOf (d : Iv) (i : Vl) : Nat × Int := if decide (d.1 = d.2.1) then (0, d.1) else (i.2.1, i.2.2)
def lkM : Mo → Nat × Int → Nat × Int → Option Vl
  | [], _, _ => none
  | q :: r, a, k => if Nat.beq q.1.1 a.1 && (decide (q.1.2 = a.2) && (Nat.beq q.2.1.1 k.1 && decide (q.2.1.2 = k.2))) then some q.2.2 else lkM r a k
theorem lkM_mem : ∀ {m : Mo} {a k : Nat × Int} {v : Vl}, lkM m a k = some v → (a, k, v) ∈ m
  | [], _, _, _, h => by cases h
  | q :: r, a, k, v, h => by
    unfold lkM at h
    split at h
    · next e =>
      cases h
      rw [Bool.and_eq_true, Bool.and_eq_true, Bool.and_eq_true] at e
      have e1 : q.1 = a := Prod.ext (Nat.eq_of_beq_eq_true e.1) (of_decide_eq_true e.2.1)
      have e2 : q.2.1 = k := Prod.ext (Nat.eq_of_beq_eq_true e.2.2.1) (of_decide_eq_true e.2.2.2)
      rw [← e1, ← e2]
      exact List.mem_cons_self
    · exact List.mem_cons_of_mem _ (lkM_mem h)
def xFresh (f : Fr) (fs : List Fr) (env : List Iv) (dc : Dc) (me : Mo) (S : List Vl) (t : Nat) (rk : Nat × Int) (g : Sg) (lo hi : Nat) (key : Nat × Int) : Option (List St) := match sgMap g lo hi with
  | some es => (match ivJs es with
    | some iv => some [(sF f (fI' f + 1) (fL' f) ((t, env.length, 0) :: S) :: fs, env ++ [iv], dc, (rk, key, (t, env.length, 0)) :: me)]
    | none => none)
  | none => none
/-- what is read at places lo to hi (named by a key) of a cell (named by a key), of bounds g -/
def xRead (f : Fr) (fs : List Fr) (env : List Iv) (dc : Dc) (me : Mo) (S : List Vl) (t : Nat) (rk : Nat × Int) (g : Sg) (lo hi : Nat) (key : Nat × Int) : Option (List St) := match lkM me rk key with
  | some v => if Nat.beq v.1 t then some [(sF f (fI' f + 1) (fL' f) (v :: S) :: fs, env, dc, me)] else xFresh f fs env dc me S t rk g lo hi key
  | none => xFresh f fs env dc me S t rk g lo hi key
/-- v may be put at places lo to hi -/
def fitIn (g : Sg) (lo hi : Nat) (v : Iv) : Bool := match sgMap g lo hi with
  | some es => es.all fun e => ivIn v e
  | none => false
/-- a key that can't name a place between lo and hi -/
def offK (env : List Iv) (k : Nat × Int) (lo hi : Nat) : Bool := match ivOf env (0, k.1, k.2) with
  | some d => decide (0 ≤ d.1) && (decide (d.2.1 < (lo : Int)) || decide ((hi : Int) < d.1))
  | none => false
/-- a key that can't name a cell that e can -/
def offC (T : Tc) (env : List Iv) (k : Nat × Int) (e : Iv) : Bool := match ivOf env (0, k.1, k.2) with
  | some d => (decide (0 ≤ d.1) && (decide (d.2.1 < e.1) || decide (e.2.1 < d.1))) || (match rcls T d, rcls T e with
    | some a, some b => !(Nat.beq a b)
    | _, _ => false)
  | none => false
def wrM (T : Tc) (env : List Iv) (me : Mo) (e : Iv) (rk : Nat × Int) (lo hi : Nat) (key : Nat × Int) (v : Vl) : Mo := (rk, key, v) :: me.filter fun q => offC T env q.1 e || offK env q.2.1 lo hi
def rngIn (W : List (Nat × Nat)) (e : Iv) : Bool := decide (4 ≤ e.1) && W.any fun q => decide ((q.1 : Int) ≤ e.1) && decide (e.2.1 ≤ (q.2 : Int))
def xWrite (T : Tc) (W : List (Nat × Nat)) (f : Fr) (fs : List Fr) (env : List Iv) (dc : Dc) (me : Mo) (S : List Vl) (e : Iv) (rk : Nat × Int) (g : Sg) (lo hi : Nat) (key : Nat × Int) (v : Vl) (b : Iv) : Option (List St) :=
  if fitIn g lo hi b && rngIn W e then some [(sF f (fI' f + 1) (fL' f) S :: fs, env, dc, wrM T env me e rk lo hi key v)] else none
def xGet (T : Tc) (a b c : Nat) (f : Fr) (fs : List Fr) (env : List Iv) (dc : Dc) (me : Mo) : Option (List St) := match fS f with
  | r :: S => if Nat.beq r.1 2 then (match ivOf env r with
    | some e => (match rcls T e with
      | some k => if Nat.beq (T.2.1 k).1 (16 + a) then xRead f fs env dc me S (tgo c) (keyOf e r) (T.2.1 k).2.2 b b (0, (b : Int)) else none
      | none => none)
    | none => none) else none
  | _ => none
def xPutf (T : Tc) (W : List (Nat × Nat)) (a b c : Nat) (f : Fr) (fs : List Fr) (env : List Iv) (dc : Dc) (me : Mo) : Option (List St) := match fS f with
  | v :: r :: S => if Nat.beq r.1 2 && Nat.beq v.1 (tgo c) then (match ivOf env r, ivOf env v with
    | some e, some d => (match rcls T e with
      | some k => if Nat.beq (T.2.1 k).1 (16 + a) && (!(Nat.beq c 4) || (decide (0 ≤ d.1) && decide (d.2.1 ≤ 1))) then xWrite T W f fs env dc me S e (keyOf e r) (T.2.1 k).2.2 b b (0, (b : Int)) v d else none
      | none => none)
    | _, _ => none) else none
  | _ => none
/-- reading an array of kind kd (53: of booleans or bytes) -/
def kdOf (op k : Nat) : Option (Nat × Nat) := match op with
  | 51 => if Nat.beq k 0 then some (0, 0) else none
  | 52 => if Nat.beq k 1 then some (1, 1) else none
  | 53 => if Nat.beq k 2 then some (2, 0) else if Nat.beq k 3 then some (3, 0) else none
  | 54 => if Nat.beq k 4 then some (4, 0) else none
  | 55 => if Nat.ble 6 k && Nat.ble k 8 then some (k, 2) else none
  | _ => none
def xAld (T : Tc) (op : Nat) (f : Fr) (fs : List Fr) (env : List Iv) (dc : Dc) (me : Mo) : Option (List St) := match fS f with
  | i :: r :: S => if Nat.beq r.1 2 && Nat.beq i.1 0 then (match ivOf env r, ivOf env i with
    | some e, some d => (match rcls T e with
      | some k => (match kdOf op (T.2.1 k).1 with
        | some kt => if decide (0 ≤ d.1) && decide (d.2.1 < ((T.2.1 k).2.1 : Int)) then xRead f fs env dc me S kt.2 (keyOf e r) (T.2.1 k).2.2 d.1.toNat d.2.1.toNat (keyOf d i) else none
        | none => none)
      | none => none)
    | _, _ => none) else none
  | _ => none
def bdOf (kd : Nat) (d : Iv) : Bool := match kd with
  | 2 => decide (0 ≤ d.1) && decide (d.2.1 ≤ 1)
  | 3 => decide (-128 ≤ d.1) && decide (d.2.1 ≤ 127)
  | 4 => decide (0 ≤ d.1) && decide (d.2.1 ≤ 65535)
  | _ => true
def xAst (T : Tc) (W : List (Nat × Nat)) (op : Nat) (f : Fr) (fs : List Fr) (env : List Iv) (dc : Dc) (me : Mo) : Option (List St) := match fS f with
  | v :: i :: r :: S => if Nat.beq r.1 2 && Nat.beq i.1 0 then (match ivOf env r, ivOf env i, ivOf env v with
    | some e, some d, some u => (match rcls T e with
      | some k => (match kdOf (op - 5) (T.2.1 k).1 with
        | some kt => if Nat.beq v.1 kt.2 && (bdOf kt.1 u && (decide (0 ≤ d.1) && decide (d.2.1 < ((T.2.1 k).2.1 : Int)))) then xWrite T W f fs env dc me S e (keyOf e r) (T.2.1 k).2.2 d.1.toNat d.2.1.toNat (keyOf d i) v u else none
        | none => none)
      | none => none)
    | _, _, _ => none) else none
  | _ => none
def xLen (T : Tc) (f : Fr) (fs : List Fr) (env : List Iv) (dc : Dc) (me : Mo) : Option (List St) := match fS f with
  | r :: S => if Nat.beq r.1 2 then (match ivOf env r with
    | some e => (match rcls T e with
      | some k => if Nat.blt (T.2.1 k).1 16 && Nat.ble (T.2.1 k).2.1 2147483647 then some [(sF f (fI' f + 1) (fL' f) ((0, 0, ((T.2.1 k).2.1 : Int)) :: S) :: fs, env, dc, me)] else none
      | none => none)
    | none => none) else none
  | _ => none
theorem cellOk.set {T : Tc} {d : Nat × Nat × Sg} {c : MC} (k : cellOk T d c) {j : Nat} {z : Int} (hz : ∀ e, sgAt d.2.2 j = some e → ivOk T e z) : cellOk T d (c.1, c.2.1, fun i => if i = j then z else c.2.2 i) := by
  refine ⟨k.1, k.2.1, fun i e he => ?_⟩
  show ivOk T e (if i = j then z else c.2.2 i)
  split
  · next q => rw [q] at he; exact hz e he
  · exact k.2.2 i e he
theorem GH.set {T : Tc} {h : MH} (g : GH T h) {r : Int} {k : Nat} (hr : rOk T k r) {j : Nat} {z : Int} (hz : ∀ e, sgAt (T.2.1 k).2.2 j = some e → ivOk T e z) : GH T (hset h r.toNat j z) := by
  refine ⟨g.1, fun a ha => ?_⟩
  show cellOk T (T.2.1 (T.1 a)) (if a = r.toNat then ((h.2 r.toNat).1, (h.2 r.toNat).2.1, fun i => if i = j then z else (h.2 r.toNat).2.2 i) else h.2 a)
  split
  · next q =>
    subst q
    have e : T.1 r.toNat = k := hr.2.2
    rw [e]
    have := g.2 r.toNat ha
    rw [e] at this
    exact this.set hz
  · exact g.2 a ha
section CI
variable {E : En} {Q0 : MO → MH → Prop} {h0 : MH} {ρ : Nat → Int} {h : MH} {f : Fr} {fs : List Fr} {env : List Iv} {dc : Dc} {me : Mo} {ss : List St} {pc : Nat} {z : Int} {a b c : Nat}
theorem Inv.cell (I : Inv E Q0 h0 ρ h (f :: fs, env, dc, me)) {r : Int} {k : Nat} (hr : rOk E.1 k r) : 0 ≤ r ∧ r.toNat < h.1 ∧ cellOk E.1 (E.1.2.1 k) (h.2 r.toNat) := by
  have g := I.2.2.2.1
  refine ⟨hr.1, Nat.lt_of_lt_of_le hr.2.1 g.1, ?_⟩
  have := g.2 r.toNat hr.2.1
  rw [hr.2.2] at this
  exact this
theorem xRead_of (I : Inv E Q0 h0 ρ h (f :: fs, env, dc, me)) {S : List Vl} (hS : ∀ v ∈ S, v.2.1 < env.length) {t k lo hi : Nat} {r : Int} (hr : rOk E.1 k r) {rk : Nat × Int} (hrl : rk.1 < env.length) (hrv : kv ρ rk = r.toNat) {j : Nat} (h1 : lo ≤ j) (h2 : j ≤ hi) {key : Nat × Int} (hkl : key.1 < env.length) (hkv : kv ρ key = j) (hx : xRead f fs env dc me S t rk (E.1.2.1 k).2.2 lo hi key = some ss) (kk : ∀ s ∈ ss, Sound E Q0 h0 s) : MW (kT (fM f)) (SemK Q0 ρ fs) (fC f) (fO f) (pcA (pgT (fM f)) (fI' f + 1)) (cL ρ (fL' f)) ((t, (h.2 r.toNat).2.2 j) :: cS ρ S) h := by
  have hc := (I.cell hr).2.2
  have hfr : ∀ {iv : Iv} {es : List Iv}, sgMap (E.1.2.1 k).2.2 lo hi = some es → ivJs es = some iv → ivOk E.1 iv ((h.2 r.toNat).2.2 j) := fun e1 e2 => by
    obtain ⟨x, m1, m2⟩ := sgMap_of _ _ _ _ e1 j h1 h2
    exact ivJs_of _ _ _ e2 m1 (hc.2.2 j x m2)
  have fresh : xFresh f fs env dc me S t rk (E.1.2.1 k).2.2 lo hi key = some ss → MW (kT (fM f)) (SemK Q0 ρ fs) (fC f) (fO f) (pcA (pgT (fM f)) (fI' f + 1)) (cL ρ (fL' f)) ((t, (h.2 r.toNat).2.2 j) :: cS ρ S) h := fun hx => by
    unfold xFresh at hx
    cases e1 : sgMap (E.1.2.1 k).2.2 lo hi with
    | none => rw [e1] at hx; cases hx
    | some es =>
      rw [e1] at hx
      replace hx : (match ivJs es with
        | some iv => some [(sF f (fI' f + 1) (fL' f) ((t, env.length, 0) :: S) :: fs, env ++ [iv], dc, (rk, key, (t, env.length, 0)) :: me)]
        | none => none) = some ss := hx
      cases e2 : ivJs es with
      | none => rw [e2] at hx; cases hx
      | some iv =>
        rw [e2] at hx
        cases hx
        have ho := hfr e1 e2
        generalize hz : (h.2 r.toNat).2.2 j = w at ho ⊢
        have ag : ∀ b, b < env.length → up ρ env.length w b = ρ b := fun b hb => up_lt hb
        have l : env.length ≤ (env ++ [iv]).length := by rw [len1]; omega
        have ev : vv (up ρ env.length w) (t, env.length, 0) = w := by
          show up ρ env.length w env.length + 0 = w
          rw [up_at, Int.add_zero]
        have ek : ∀ (q : Nat × Int), q.1 < env.length → kv (up ρ env.length w) q = kv ρ q := fun q hq => by
          unfold kv
          rw [up_lt hq]
        have := goOn I (f' := sF f (fI' f + 1) (fL' f) ((t, env.length, 0) :: S)) (ρ' := up ρ env.length w) (env' := env ++ [iv]) (dc' := dc) (me' := (rk, key, (t, env.length, 0)) :: me) (h' := h) ag l (I.1.push ho) (DcOk_ext ag l I.2.1) ⟨fun p hp => (List.mem_cons.mp hp).elim (fun x => by rw [x, len1]; exact ⟨Nat.lt_succ_of_lt hrl, Nat.lt_succ_of_lt hkl, Nat.lt_succ_self _⟩) fun m => ⟨Nat.lt_of_lt_of_le (I.2.2.1.1 p m).1 l, Nat.lt_of_lt_of_le (I.2.2.1.1 p m).2.1 l, Nat.lt_of_lt_of_le (I.2.2.1.1 p m).2.2 l⟩, fun p hp => (List.mem_cons.mp hp).elim (fun x => by
          rw [x, ev]
          show (h.2 (kv (up ρ env.length w) rk)).2.2 (kv (up ρ env.length w) key) = w
          rw [ek rk hrl, ek key hkl, hrv, hkv]
          exact hz) fun m => MemS_ext ag I.2.2.1.1 I.2.2.1.2 p m⟩ I.2.2.2.1 I.2.2.2.2.1 rfl rfl (fun p hp => Nat.lt_of_lt_of_le (I.L p hp) l) (fun v hv => (List.mem_cons.mp hv).elim (fun x => by rw [x, len1]; exact Nat.lt_succ_self _) fun m => Nat.lt_of_lt_of_le (hS v m) l) (one kk)
        have e3 : cL (up ρ env.length w) (fL' f) = cL ρ (fL' f) := cL_ext ag I.L
        have e4 : cS (up ρ env.length w) ((t, env.length, 0) :: S) = (t, w) :: cS ρ S := by
          show (t, vv (up ρ env.length w) (t, env.length, 0)) :: cS _ S = _
          rw [cS_ext ag hS, ev]
        have this : MW (kT (fM f)) (SemK Q0 ρ fs) (fC f) (fO f) (pcA (pgT (fM f)) (fI' f + 1)) (cL (up ρ env.length w) (fL' f)) (cS (up ρ env.length w) ((t, env.length, 0) :: S)) h := this
        rw [e3, e4] at this
        exact this
  unfold xRead at hx
  split at hx
  · next v hv =>
    split at hx
    · next q2 =>
      cases hx
      have m := lkM_mem hv
      have hm := I.2.2.1.2 _ m
      have hm : (h.2 (kv ρ rk)).2.2 (kv ρ key) = vv ρ v := hm
      have := goSame I (i := fI' f + 1) (L := fL' f) (S := v :: S) I.L (fun u hu => (List.mem_cons.mp hu).elim (fun x => x ▸ (I.2.2.1.1 _ m).2.2) (hS u)) (one kk)
      rw [← hrv, ← hkv, hm]
      have e4 : cS ρ (v :: S) = (t, vv ρ v) :: cS ρ S := by
        show (v.1, vv ρ v) :: cS ρ S = _
        rw [Nat.eq_of_beq_eq_true q2]
      rw [e4] at this
      exact this
    · exact fresh hx
  · exact fresh hx
theorem xWrite_of (I : Inv E Q0 h0 ρ h (f :: fs, env, dc, me)) {S : List Vl} (hS : ∀ v ∈ S, v.2.1 < env.length) {k lo hi : Nat} {e d : Iv} {r : Int} {v : Vl} (he : ivOk E.1 e r) (hr : rOk E.1 k r) {rk : Nat × Int} (hrl : rk.1 < env.length) (hrv : kv ρ rk = r.toNat) {j : Nat} (h1 : lo ≤ j) (h2 : j ≤ hi) {key : Nat × Int} (hkl : key.1 < env.length) (hkv : kv ρ key = j) (hv : ivOf env v = some d) (hx : xWrite E.1 E.2.2.2.2 f fs env dc me S e rk (E.1.2.1 k).2.2 lo hi key v d = some ss) (kk : ∀ s ∈ ss, Sound E Q0 h0 s) : 4 ≤ r.toNat ∧ MW (kT (fM f)) (SemK Q0 ρ fs) (fC f) (fO f) (pcA (pgT (fM f)) (fI' f + 1)) (cL ρ (fL' f)) (cS ρ S) (hset h r.toNat j (cv ρ v).2) := by
  unfold xWrite at hx
  split at hx
  · next q =>
    cases hx
    rw [Bool.and_eq_true] at q
    obtain ⟨q1, q2⟩ := q
    have kvv := ivOf_of I.1 hv
    have lv := ivOf_lt I.1.1 hv
    unfold rngIn at q2
    rw [Bool.and_eq_true] at q2
    have q3 := of_decide_eq_true q2.1
    obtain ⟨p, p1, p2⟩ := List.any_eq_true.mp q2.2
    rw [Bool.and_eq_true] at p2
    have p3 := of_decide_eq_true p2.1
    have p4 := of_decide_eq_true p2.2
    have he1 := he.1
    have he2 := he.2.1
    have hW : inR E.2.2.2.2 r.toNat = true := inR_of.mpr ⟨p, p1, by omega, by omega⟩
    have hz : ∀ x, sgAt (E.1.2.1 k).2.2 j = some x → ivOk E.1 x (vv ρ v) := fun x hxx => by
      unfold fitIn at q1
      cases e1 : sgMap (E.1.2.1 k).2.2 lo hi with
      | none => rw [e1] at q1; cases q1
      | some es =>
        rw [e1] at q1
        obtain ⟨y, m1, m2⟩ := sgMap_of _ _ _ _ e1 j h1 h2
        rw [hxx] at m2
        cases m2
        exact ivIn_of (List.all_eq_true.mp q1 x m1) kvv
    refine ⟨by omega, ?_⟩
    have g := GH.set I.2.2.2.1 hr hz
    refine goOn I (f' := sF f (fI' f + 1) (fL' f) S) (h' := hset h r.toNat j (vv ρ v)) (fun _ _ => rfl) (Nat.le_refl _) I.1 I.2.1 ?_ g (I.2.2.2.2.1.set hW) rfl rfl I.L hS (one kk)
    have keep : ∀ q ∈ me.filter (fun q => offC E.1 env q.1 e || offK env q.2.1 lo hi), (q.1.1 < env.length ∧ q.2.1.1 < env.length ∧ q.2.2.2.1 < env.length) ∧ ((hset h r.toNat j (vv ρ v)).2 (kv ρ q.1)).2.2 (kv ρ q.2.1) = vv ρ q.2.2 := fun q hq => by
      obtain ⟨m1, m2⟩ := List.mem_filter.mp hq
      refine ⟨I.2.2.1.1 q m1, ?_⟩
      rw [← I.2.2.1.2 q m1]
      show (if kv ρ q.1 = r.toNat then ((h.2 r.toNat).1, (h.2 r.toNat).2.1, fun i => if i = j then vv ρ v else (h.2 r.toNat).2.2 i) else h.2 (kv ρ q.1)).2.2 (kv ρ q.2.1) = (h.2 (kv ρ q.1)).2.2 (kv ρ q.2.1)
      split
      · next x =>
        show (if kv ρ q.2.1 = j then vv ρ v else (h.2 r.toNat).2.2 (kv ρ q.2.1)) = _
        split
        · next y =>
          exfalso
          have hr0 := hr.1
          rw [Bool.or_eq_true] at m2
          rcases m2 with m2 | m2
          · unfold offC at m2
            split at m2
            · next dd hdd =>
              have kd := ivOf_of I.1 hdd
              have kd1 : dd.1 ≤ ρ q.1.1 + q.1.2 := kd.1
              have kd2 : ρ q.1.1 + q.1.2 ≤ dd.2.1 := kd.2.1
              unfold kv at x
              rw [Bool.or_eq_true] at m2
              rcases m2 with m2 | m2
              · rw [Bool.and_eq_true, Bool.or_eq_true] at m2
                have z1 := of_decide_eq_true m2.1
                rcases m2.2 with z | z
                · have z := of_decide_eq_true z
                  omega
                · have z := of_decide_eq_true z
                  omega
              · split at m2
                · next a b ha hb =>
                  have ra := rcls_of ha kd
                  have rb := rcls_of hb he
                  have x2 : (ρ q.1.1 + q.1.2).toNat = r.toNat := x
                  have ea : E.1.1 (ρ q.1.1 + q.1.2).toNat = a := ra.2.2
                  have eb := rb.2.2
                  rw [x2, eb] at ea
                  rw [ea, Nat.beq_refl] at m2
                  cases m2
                · cases m2
            · cases m2
          · unfold offK at m2
            split at m2
            · next dd hdd =>
              have kd := ivOf_of I.1 hdd
              have kd1 : dd.1 ≤ ρ q.2.1.1 + q.2.1.2 := kd.1
              have kd2 : ρ q.2.1.1 + q.2.1.2 ≤ dd.2.1 := kd.2.1
              rw [Bool.and_eq_true, Bool.or_eq_true] at m2
              have z1 := of_decide_eq_true m2.1
              unfold kv at y
              rcases m2.2 with z | z
              · have z := of_decide_eq_true z
                omega
              · have z := of_decide_eq_true z
                omega
            · cases m2
        · rw [x]
      · rfl
    show MemOk ρ env.length _ (wrM E.1 env me e rk lo hi key v)
    unfold wrM
    refine ⟨fun q hq => (List.mem_cons.mp hq).elim (fun y => y ▸ ⟨hrl, hkl, lv⟩) fun m => (keep q m).1, fun q hq => (List.mem_cons.mp hq).elim (fun y => ?_) fun m => (keep q m).2⟩
    rw [y]
    show (if kv ρ rk = r.toNat then ((h.2 r.toNat).1, (h.2 r.toNat).2.1, fun i => if i = j then vv ρ v else (h.2 r.toNat).2.2 i) else h.2 (kv ρ rk)).2.2 (kv ρ key) = vv ρ v
    rw [if_pos hrv]
    show (if kv ρ key = j then vv ρ v else _) = _
    rw [if_pos hkv]
  · cases hx
theorem kv0 (I : Inv E Q0 h0 ρ h (f :: fs, env, dc, me)) (b : Nat) : kv ρ (0, (b : Int)) = b := by
  unfold kv
  show (ρ 0 + (b : Int)).toNat = b
  rw [I.1.2.1]
  omega
theorem keyOf_at (I : Inv E Q0 h0 ρ h (f :: fs, env, dc, me)) {i : Vl} {d : Iv} (hd : ivOf env i = some d) : (keyOf d i).1 < env.length ∧ kv ρ (keyOf d i) = (cv ρ i).2.toNat := by
  unfold keyOf
  have k := ivOf_of I.1 hd
  have k1 := k.1
  have k2 := k.2.1
  split
  · next q =>
    have q := of_decide_eq_true q
    refine ⟨I.1.1, ?_⟩
    show (ρ 0 + d.1).toNat = (ρ i.2.1 + i.2.2).toNat
    rw [I.1.2.1]
    omega
  · exact ⟨ivOf_lt I.1.1 hd, rfl⟩
theorem xGet_of (I : Inv E Q0 h0 ρ h (f :: fs, env, dc, me)) (hx : xGet E.1 a b c f fs env dc me = some ss) (kk : ∀ s ∈ ss, Sound E Q0 h0 s) : Ask Q0 ρ f fs h (pc, 49, z, a, b, c) := by
  unfold xGet at hx
  unfold Ask
  have hS0 := I.S
  cases eS : fS f with
  | nil => rw [eS] at hx; cases hx
  | cons r S =>
    rw [eS] at hx hS0
    have hS := tl_lt rfl hS0
    replace hx : (if Nat.beq r.1 2 then (match ivOf env r with
      | some e => (match rcls E.1 e with
        | some k => if Nat.beq (E.1.2.1 k).1 (16 + a) then xRead f fs env dc me S (tgo c) (keyOf e r) (E.1.2.1 k).2.2 b b (0, (b : Int)) else none
        | none => none)
      | none => none) else none) = some ss := hx
    split at hx
    · next q =>
      split at hx
      · next e he =>
        split at hx
        · next k hk =>
          split at hx
          · next q2 =>
            have ke := ivOf_of I.1 he
            have kr := rcls_of hk ke
            have cc := I.cell kr
            refine ⟨Nat.eq_of_beq_eq_true q, cc.1, cc.2.1, by rw [show (h.2 (cv ρ r).2.toNat).1 = _ from cc.2.2.1]; exact Nat.eq_of_beq_eq_true q2, fun _ => ?_⟩
            exact xRead_of I hS.2 kr (keyOf_at I he).1 (keyOf_at I he).2 (Nat.le_refl b) (Nat.le_refl b) I.1.1 (kv0 I b) hx kk
          · cases hx
        · cases hx
      · cases hx
    · cases hx
theorem xPutf_of (I : Inv E Q0 h0 ρ h (f :: fs, env, dc, me)) (hx : xPutf E.1 E.2.2.2.2 a b c f fs env dc me = some ss) (kk : ∀ s ∈ ss, Sound E Q0 h0 s) : Ask Q0 ρ f fs h (pc, 50, z, a, b, c) := by
  unfold xPutf at hx
  unfold Ask
  have hS0 := I.S
  cases eS : fS f with
  | nil => rw [eS] at hx; cases hx
  | cons v S1 =>
    cases S1 with
    | nil => rw [eS] at hx; cases hx
    | cons r S =>
      rw [eS] at hx hS0
      have hS := tl_lt rfl (tl_lt rfl hS0).2
      replace hx : (if Nat.beq r.1 2 && Nat.beq v.1 (tgo c) then (match ivOf env r, ivOf env v with
        | some e, some d => (match rcls E.1 e with
          | some k => if Nat.beq (E.1.2.1 k).1 (16 + a) && (!(Nat.beq c 4) || (decide (0 ≤ d.1) && decide (d.2.1 ≤ 1))) then xWrite E.1 E.2.2.2.2 f fs env dc me S e (keyOf e r) (E.1.2.1 k).2.2 b b (0, (b : Int)) v d else none
          | none => none)
        | _, _ => none) else none) = some ss := hx
      split at hx
      · next q =>
        rw [Bool.and_eq_true] at q
        split at hx
        · next e d he hd =>
          split at hx
          · next k hk =>
            split at hx
            · next q2 =>
              rw [Bool.and_eq_true, Bool.or_eq_true] at q2
              have ke := ivOf_of I.1 he
              have kd := ivOf_of I.1 hd
              have kr := rcls_of hk ke
              have cc := I.cell kr
              refine ⟨Nat.eq_of_beq_eq_true q.2, Nat.eq_of_beq_eq_true q.1, cc.1, cc.2.1, by rw [show (h.2 (cv ρ r).2.toNat).1 = _ from cc.2.2.1]; exact Nat.eq_of_beq_eq_true q2.1, fun c4 => ?_, (xWrite_of I hS.2 ke kr (keyOf_at I he).1 (keyOf_at I he).2 (Nat.le_refl b) (Nat.le_refl b) I.1.1 (kv0 I b) hd hx kk).2⟩
              have c4 : c = 4 := c4
              subst c4
              have q3 := q2.2.resolve_left (by decide)
              rw [Bool.and_eq_true] at q3
              have d1 := of_decide_eq_true q3.1
              have d2 := of_decide_eq_true q3.2
              have k1 := kd.1
              have k2 := kd.2.1
              exact ⟨by show 0 ≤ ρ v.2.1 + v.2.2; omega, by show ρ v.2.1 + v.2.2 ≤ 1; omega⟩
            · cases hx
          · cases hx
        · cases hx
      · cases hx
theorem xLen_of (I : Inv E Q0 h0 ρ h (f :: fs, env, dc, me)) (hx : xLen E.1 f fs env dc me = some ss) (kk : ∀ s ∈ ss, Sound E Q0 h0 s) : Ask Q0 ρ f fs h (pc, 60, z, a, b, c) := by
  unfold xLen at hx
  unfold Ask
  have hS0 := I.S
  cases eS : fS f with
  | nil => rw [eS] at hx; cases hx
  | cons r S =>
    rw [eS] at hx hS0
    have hS := tl_lt rfl hS0
    replace hx : (if Nat.beq r.1 2 then (match ivOf env r with
      | some e => (match rcls E.1 e with
        | some k => if Nat.blt (E.1.2.1 k).1 16 && Nat.ble (E.1.2.1 k).2.1 2147483647 then some [(sF f (fI' f + 1) (fL' f) ((0, 0, ((E.1.2.1 k).2.1 : Int)) :: S) :: fs, env, dc, me)] else none
        | none => none)
      | none => none) else none) = some ss := hx
    split at hx
    · next q =>
      split at hx
      · next e he =>
        split at hx
        · next k hk =>
          split at hx
          · next q2 =>
            cases hx
            rw [Bool.and_eq_true] at q2
            have ke := ivOf_of I.1 he
            have kr := rcls_of hk ke
            have cc := I.cell kr
            have l1 : (E.1.2.1 k).1 < 16 := by
              have := q2.1
              unfold Nat.blt at this
              exact Nat.le_of_ble_eq_true this
            have e1 : (h.2 (cv ρ r).2.toNat).1 = (E.1.2.1 k).1 := cc.2.2.1
            have e2 : (h.2 (cv ρ r).2.toNat).2.1 = (E.1.2.1 k).2.1 := cc.2.2.2.1 l1
            have := goSame I (i := fI' f + 1) (L := fL' f) (S := (0, 0, ((E.1.2.1 k).2.1 : Int)) :: S) I.L (fun u hu => (List.mem_cons.mp hu).elim (fun x => x ▸ I.1.1) (hS.2 u)) (one kk)
            refine ⟨Nat.eq_of_beq_eq_true q, cc.1, cc.2.1, by rw [e1]; exact l1, by rw [e2]; exact Nat.le_of_ble_eq_true q2.2, ?_⟩
            have e4 : cS ρ ((0, 0, ((E.1.2.1 k).2.1 : Int)) :: S) = (0, ((h.2 (cv ρ r).2.toNat).2.1 : Int)) :: cS ρ S := by
              show (0, ρ 0 + ((E.1.2.1 k).2.1 : Int)) :: cS ρ S = _
              rw [I.1.2.1, Int.zero_add, e2]
            rw [e4] at this
            exact this
          · cases hx
        · cases hx
      · cases hx
    · cases hx
end CI
