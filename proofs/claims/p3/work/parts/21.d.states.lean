/-! the checker's states, and what they mean -/
/-- a label: place, locals, stack, fresh ones, what is remembered, the first fresh number, room, what falls (none: a join) -/
abbrev Lb : Type := Nat × Lv × List Vl × List Iv × Mo × Nat × Nat × Nat × List (Int × Vl) × List (Vl × Vl × Int)
/-- a frame: method, place, notes used, room, locals, stack, labels -/
abbrev Fr : Type := Nat × Nat × Nat × Nat × Nat × Lv × List Vl × List Lb
abbrev St : Type := List Fr × List Iv × Dc × Mo
/-- a contract: method, arguments, answer, cells that may change, room -/
abbrev Ct : Type := Nat × List (Nat × Iv) × Option (Nat × Iv) × List (Nat × Nat) × Nat × Nat
/-- a note: place, locals (kept or fresh), fresh ones on the stack, how many of the stack go, what is remembered, and what falls -/
abbrev An : Type := Nat × List (Nat × Option (Nat × Iv)) × List (Nat × Iv) × Nat × List ((Nat × Int) × Nat × Option (Nat × Iv)) × Int × List (Int × Nat × Nat) × List ((Nat × Nat) × (Nat × Nat) × Int)
/-- cells, contracts, notes, contracts at hand, cells that may change -/
abbrev En : Type := Tc × (Nat → Ct) × (Nat → Nat → List An) × List Nat × List (Nat × Nat)
def lI (b : Lb) : Nat := b.1
def lL (b : Lb) : Lv := b.2.1
def lS (b : Lb) : List Vl := b.2.2.1
def lF (b : Lb) : List Iv := b.2.2.2.1
def lM (b : Lb) : Mo := b.2.2.2.2.1
def lNb (b : Lb) : Nat := b.2.2.2.2.2.1
def lC (b : Lb) : Nat := b.2.2.2.2.2.2.1
def lO (b : Lb) : Nat := b.2.2.2.2.2.2.2.1
def lD (b : Lb) : List (Int × Vl) := b.2.2.2.2.2.2.2.2.1
def lR (b : Lb) : List (Vl × Vl × Int) := b.2.2.2.2.2.2.2.2.2
def fM (f : Fr) : Nat := f.1
def fI' (f : Fr) : Nat := f.2.1
def fA (f : Fr) : Nat := f.2.2.1
def fC (f : Fr) : Nat := f.2.2.2.1
def fO (f : Fr) : Nat := f.2.2.2.2.1
def fL' (f : Fr) : Lv := f.2.2.2.2.2.1
def fS (f : Fr) : List Vl := f.2.2.2.2.2.2.1
def fB (f : Fr) : List Lb := f.2.2.2.2.2.2.2
def vv (ρ : Nat → Int) (v : Vl) : Int := ρ v.2.1 + v.2.2
def extn (ρ : Nat → Int) (nb : Nat) (zs : List Int) : Nat → Int := fun b => if b < nb then ρ b else (zs[b - nb]?).getD 0
def mSum (ρ : Nat → Int) : List (Int × Vl) → Int
  | [] => 0
  | q :: r => q.1 * vv ρ q.2 + mSum ρ r
/-- the place that a key names -/
def kv (ρ : Nat → Int) (k : Nat × Int) : Nat := (ρ k.1 + k.2).toNat
def MemS (ρ : Nat → Int) (h : MH) (me : Mo) : Prop := ∀ q ∈ me, (h.2 (kv ρ q.1)).2.2 (kv ρ q.2.1) = vv ρ q.2.2
def RelS (ρ : Nat → Int) (rs : List (Vl × Vl × Int)) : Prop := ∀ q ∈ rs, vv ρ q.1 ≤ vv ρ q.2.1 + q.2.2
def MemOk (ρ : Nat → Int) (n : Nat) (h : MH) (me : Mo) : Prop := (∀ q ∈ me, q.1.1 < n ∧ q.2.1.1 < n ∧ q.2.2.2.1 < n) ∧ MemS ρ h me
section CK
variable (E : En) (Q0 : MO → MH → Prop) (h0 : MH)
/-- what the frames below wait for -/
def SemK (ρ : Nat → Int) : List Fr → MO → MH → Prop
  | [], r, h => Q0 r h
  | f :: fs, r, h => (r.1 = 0 → MW (kT (fM f)) (SemK ρ fs) (fC f) (fO f) (pcA (pgT (fM f)) (fI' f)) (cL ρ (fL' f)) (cS ρ (fS f)) h) ∧ (r.1 = 1 → MW (kT (fM f)) (SemK ρ fs) (fC f) (fO f) (pcA (pgT (fM f)) (fI' f)) (cL ρ (fL' f)) (r.2 :: cS ρ (fS f)) h)
/-- from the top frame it goes well -/
def Top (ρ : Nat → Int) (f : Fr) (fs : List Fr) (h : MH) : Prop := MW (kT (fM f)) (SemK Q0 ρ fs) (fC f) (fO f) (pcA (pgT (fM f)) (fI' f)) (cL ρ (fL' f)) (cS ρ (fS f)) h
def LabSem (ρ : Nat → Int) (m : Nat) (fs : List Fr) (b : Lb) : Prop := ∀ (zs : List Int) (h : MH), zs.length = (lF b).length → (∀ (j : Nat) (e : Iv) (z : Int), (lF b)[j]? = some e → zs[j]? = some z → ivOk E.1 e z) → GH E.1 h → HRel E.2.2.2.2 h0 h → MemS (extn ρ (lNb b) zs) h (lM b) → RelS (extn ρ (lNb b) zs) (lR b) → (lD b ≠ [] → mSum (extn ρ (lNb b) zs) (lD b) < mSum ρ (lD b)) →
  MW (kT m) (SemK Q0 ρ fs) (lC b) (lO b) (pcA (pgT m) (lI b)) (cL (extn ρ (lNb b) zs) (lL b)) (cS (extn ρ (lNb b) zs) (lS b)) h
def FrOk (ρ : Nat → Int) (n : Nat) (f : Fr) (fs : List Fr) : Prop := fM f < 821 ∧ (∀ q ∈ fL' f, q.2.2.1 < n) ∧ (∀ v ∈ fS f, v.2.1 < n) ∧ ∀ b ∈ fB f, lNb b ≤ n ∧ (∀ q ∈ lD b, q.2.2.1 < n ∧ q.2.2.1 < lNb b + (lF b).length) ∧ (∀ q ∈ lR b, q.1.2.1 < lNb b + (lF b).length ∧ q.2.1.2.1 < lNb b + (lF b).length) ∧ LabSem E Q0 h0 ρ (fM f) fs b
def FrsOk (ρ : Nat → Int) (n : Nat) : List Fr → Prop
  | [] => True
  | f :: fs => FrOk E Q0 h0 ρ n f fs ∧ FrsOk ρ n fs
def Inv (ρ : Nat → Int) (h : MH) (s : St) : Prop := RelE E.1 ρ s.2.1 ∧ DcOk ρ s.2.1.length s.2.2.1 ∧ MemOk ρ s.2.1.length h s.2.2.2 ∧ GH E.1 h ∧ HRel E.2.2.2.2 h0 h ∧ FrsOk E Q0 h0 ρ s.2.1.length s.1
def Sound (s : St) : Prop := ∀ (ρ : Nat → Int) (h : MH), Inv E Q0 h0 ρ h s → match s.1 with
  | [] => True
  | f :: fs => Top Q0 ρ f fs h
end CK
theorem cv_ext {ρ ρ' : Nat → Int} {n : Nat} (a : ∀ b, b < n → ρ' b = ρ b) {v : Vl} (h : v.2.1 < n) : cv ρ' v = cv ρ v := by
  unfold cv
  rw [a _ h]
theorem vv_ext {ρ ρ' : Nat → Int} {n : Nat} (a : ∀ b, b < n → ρ' b = ρ b) {v : Vl} (h : v.2.1 < n) : vv ρ' v = vv ρ v := by
  unfold vv
  rw [a _ h]
theorem cL_ext {ρ ρ' : Nat → Int} {n : Nat} (a : ∀ b, b < n → ρ' b = ρ b) {L : Lv} (h : ∀ q ∈ L, q.2.2.1 < n) : cL ρ' L = cL ρ L := by
  unfold cL
  exact List.map_congr_left fun q hq => by rw [cv_ext a (h q hq)]
theorem cS_ext {ρ ρ' : Nat → Int} {n : Nat} (a : ∀ b, b < n → ρ' b = ρ b) {S : List Vl} (h : ∀ v ∈ S, v.2.1 < n) : cS ρ' S = cS ρ S := by
  unfold cS
  exact List.map_congr_left fun q hq => cv_ext a (h q hq)
theorem mSum_ext {ρ ρ' : Nat → Int} {n : Nat} (a : ∀ b, b < n → ρ' b = ρ b) : ∀ {D : List (Int × Vl)}, (∀ q ∈ D, q.2.2.1 < n) → mSum ρ' D = mSum ρ D
  | [], _ => rfl
  | q :: r, h => by
    unfold mSum
    rw [vv_ext a (h q List.mem_cons_self), mSum_ext a (D := r) fun p hp => h p (List.mem_cons_of_mem _ hp)]
theorem MemS_ext {ρ ρ' : Nat → Int} {n : Nat} {h : MH} {me : Mo} (a : ∀ b, b < n → ρ' b = ρ b) (k : ∀ q ∈ me, q.1.1 < n ∧ q.2.1.1 < n ∧ q.2.2.2.1 < n) (m : MemS ρ h me) : MemS ρ' h me := fun q hq => by
  rw [vv_ext a (k q hq).2.2, ← m q hq]
  unfold kv
  rw [a _ (k q hq).1, a _ (k q hq).2.1]
theorem DcOk_ext {ρ ρ' : Nat → Int} {n n' : Nat} {dc : Dc} (a : ∀ b, b < n → ρ' b = ρ b) (l : n ≤ n') (D : DcOk ρ n dc) : DcOk ρ' n' dc := fun q hq => by
  have := D q hq
  refine ⟨by omega, by omega, ?_⟩
  rw [a _ this.1, a _ this.2.1]
  exact this.2.2
section CE
variable {E : En} {Q0 : MO → MH → Prop} {h0 : MH}
theorem SemK_ext {ρ ρ' : Nat → Int} {n : Nat} (a : ∀ b, b < n → ρ' b = ρ b) : ∀ {fs : List Fr}, FrsOk E Q0 h0 ρ n fs → SemK Q0 ρ' fs = SemK Q0 ρ fs
  | [], _ => rfl
  | f :: fs, h => by
    have ih := SemK_ext a h.2
    have e1 := cL_ext a h.1.2.1
    have e2 := cS_ext a h.1.2.2.1
    funext r g
    unfold SemK
    rw [ih, e1, e2]
theorem extn_ext {ρ ρ' : Nat → Int} {n nb : Nat} (a : ∀ b, b < n → ρ' b = ρ b) (h : nb ≤ n) (zs : List Int) : extn ρ' nb zs = extn ρ nb zs := by
  funext b
  unfold extn
  split
  · exact a b (by omega)
  · rfl
theorem LabSem_ext {ρ ρ' : Nat → Int} {n m : Nat} {fs : List Fr} {b : Lb} (a : ∀ b, b < n → ρ' b = ρ b) (F : FrsOk E Q0 h0 ρ n fs) (hn : lNb b ≤ n) (hd : ∀ q ∈ lD b, q.2.2.1 < n ∧ q.2.2.1 < lNb b + (lF b).length) (k : LabSem E Q0 h0 ρ m fs b) : LabSem E Q0 h0 ρ' m fs b := by
  intro zs h l1 l2 g r mm rr d
  rw [extn_ext a hn] at mm rr d ⊢
  rw [SemK_ext a F]
  refine k zs h l1 l2 g r mm rr fun q => ?_
  have := d q
  rw [mSum_ext (D := lD b) a fun q hq => (hd q hq).1] at this
  exact this
theorem FrsOk_ext {ρ ρ' : Nat → Int} {n n' : Nat} (a : ∀ b, b < n → ρ' b = ρ b) (l : n ≤ n') : ∀ {fs : List Fr}, FrsOk E Q0 h0 ρ n fs → FrsOk E Q0 h0 ρ' n' fs
  | [], _ => trivial
  | f :: fs, h => by
    refine ⟨⟨h.1.1, fun q hq => Nat.lt_of_lt_of_le (h.1.2.1 q hq) l, fun v hv => Nat.lt_of_lt_of_le (h.1.2.2.1 v hv) l, fun b hb => ?_⟩, FrsOk_ext a l h.2⟩
    obtain ⟨k1, k2, k4, k3⟩ := h.1.2.2.2 b hb
    exact ⟨Nat.le_trans k1 l, fun q hq => ⟨Nat.lt_of_lt_of_le (k2 q hq).1 l, (k2 q hq).2⟩, k4, LabSem_ext a h.2 k1 k2 k3⟩
/-- the top frame goes on, with new numbers -/
theorem goOn {ρ ρ' : Nat → Int} {h h' : MH} {f f' : Fr} {fs : List Fr} {env env' : List Iv} {dc dc' : Dc} {me me' : Mo} (I : Inv E Q0 h0 ρ h (f :: fs, env, dc, me)) (a : ∀ b, b < env.length → ρ' b = ρ b) (l : env.length ≤ env'.length) (R : RelE E.1 ρ' env') (D : DcOk ρ' env'.length dc') (M : MemOk ρ' env'.length h' me') (g : GH E.1 h') (r : HRel E.2.2.2.2 h0 h') (em : fM f' = fM f) (eb : fB f' = fB f) (hL : ∀ q ∈ fL' f', q.2.2.1 < env'.length) (hS : ∀ v ∈ fS f', v.2.1 < env'.length) (S : Sound E Q0 h0 (f' :: fs, env', dc', me')) : MW (kT (fM f)) (SemK Q0 ρ fs) (fC f') (fO f') (pcA (pgT (fM f)) (fI' f')) (cL ρ' (fL' f')) (cS ρ' (fS f')) h' := by
  have F := I.2.2.2.2.2
  have k := S ρ' h' ⟨R, D, M, g, r, ⟨⟨by rw [em]; exact F.1.1, hL, hS, fun b hb => ?_⟩, FrsOk_ext a l F.2⟩⟩
  · have k : Top Q0 ρ' f' fs h' := k
    unfold Top at k
    rw [em, SemK_ext a F.2] at k
    exact k
  · rw [eb] at hb
    obtain ⟨k1, k2, k4, k3⟩ := F.1.2.2.2 b hb
    rw [em]
    exact ⟨Nat.le_trans k1 l, fun q hq => ⟨Nat.lt_of_lt_of_le (k2 q hq).1 l, (k2 q hq).2⟩, k4, LabSem_ext a F.2 k1 k2 k3⟩
theorem RelE.push {T : Tc} {ρ : Nat → Int} {env : List Iv} (R : RelE T ρ env) {e : Iv} {z : Int} (h : ivOk T e z) : RelE T (up ρ env.length z) (env ++ [e]) := by
  refine ⟨by rw [List.length_append]; have := R.1; omega, by rw [up_lt R.1]; exact R.2.1, fun b f hf => ?_⟩
  rw [List.getElem?_append] at hf
  split at hf
  · next q => rw [up_lt q]; exact R.2.2 b f hf
  · next q =>
    have hb : b - env.length = 0 := by
      have := (List.getElem?_eq_some_iff.mp hf).1
      simp at this
      omega
    rw [hb] at hf
    cases hf
    have : b = env.length := by omega
    rw [this, up_at]
    exact h
theorem len1 (env : List Iv) (e : Iv) : (env ++ [e]).length = env.length + 1 := by
  rw [List.length_append]
  rfl
end CE
def sF (f : Fr) (i : Nat) (L : Lv) (S : List Vl) : Fr := (f.1, i, 0, f.2.2.2.1, f.2.2.2.2.1, L, S, f.2.2.2.2.2.2.2)
/-- what a row of an operation becomes: the states behind it -/
def putR (f : Fr) (fs : List Fr) (env : List Iv) (dc : Dc) (me : Mo) (i : Nat) (L : Lv) (S : List Vl) (t : Nat) (r : AR) : St := match r with
  | .inl v => (sF f i L (v :: S) :: fs, env, dc, me)
  | .inr q => (sF f i L ((t, env.length, 0) :: S) :: fs, env ++ [q.1], q.2 ++ dc, me)
section CF
variable {E : En} {Q0 : MO → MH → Prop} {h0 : MH} {ρ : Nat → Int} {h : MH} {f : Fr} {fs : List Fr} {env : List Iv} {dc : Dc} {me : Mo}
/-- nothing new: the frame goes on with locals and stack out of what was there -/
theorem goSame (I : Inv E Q0 h0 ρ h (f :: fs, env, dc, me)) {i : Nat} {L : Lv} {S : List Vl} (hL : ∀ q ∈ L, q.2.2.1 < env.length) (hS : ∀ v ∈ S, v.2.1 < env.length) (k : Sound E Q0 h0 (sF f i L S :: fs, env, dc, me)) : MW (kT (fM f)) (SemK Q0 ρ fs) (fC f) (fO f) (pcA (pgT (fM f)) i) (cL ρ L) (cS ρ S) h :=
  goOn I (f' := sF f i L S) (fun _ _ => rfl) (Nat.le_refl _) I.1 I.2.1 I.2.2.1 I.2.2.2.1 I.2.2.2.2.1 rfl rfl hL hS k
/-- other bounds alone -/
theorem goEnv (I : Inv E Q0 h0 ρ h (f :: fs, env, dc, me)) {env' : List Iv} {dc' : Dc} (R : RelE E.1 ρ env') (D : DcOk ρ env.length dc') (l : env'.length = env.length) {i : Nat} {L : Lv} {S : List Vl} (hL : ∀ q ∈ L, q.2.2.1 < env.length) (hS : ∀ v ∈ S, v.2.1 < env.length) (k : Sound E Q0 h0 (sF f i L S :: fs, env', dc', me)) : MW (kT (fM f)) (SemK Q0 ρ fs) (fC f) (fO f) (pcA (pgT (fM f)) i) (cL ρ L) (cS ρ S) h :=
  goOn I (f' := sF f i L S) (fun _ _ => rfl) (by rw [l]; exact Nat.le_refl _) R (by rw [l]; exact D) (by rw [l]; exact I.2.2.1) I.2.2.2.1 I.2.2.2.2.1 rfl rfl (by rw [l]; exact hL) (by rw [l]; exact hS) k
/-- a new number among the locals -/
theorem goLoc (I : Inv E Q0 h0 ρ h (f :: fs, env, dc, me)) {i : Nat} {L : Lv} {S : List Vl} {z : Int} {e : Iv} (he : ivOk E.1 e z) (hL : ∀ q ∈ L, q.2.2.1 < env.length + 1) (hS : ∀ v ∈ S, v.2.1 < env.length) (k : Sound E Q0 h0 (sF f i L S :: fs, env ++ [e], dc, me)) : MW (kT (fM f)) (SemK Q0 ρ fs) (fC f) (fO f) (pcA (pgT (fM f)) i) (cL (up ρ env.length z) L) (cS ρ S) h := by
  have a : ∀ b, b < env.length → up ρ env.length z b = ρ b := fun b hb => up_lt hb
  have l : env.length ≤ (env ++ [e]).length := by rw [len1]; omega
  have := goOn I (f' := sF f i L S) (ρ' := up ρ env.length z) (env' := env ++ [e]) (dc' := dc) (me' := me) (h' := h) a l (I.1.push he) (DcOk_ext a l I.2.1) ⟨fun p hp => ⟨Nat.lt_of_lt_of_le (I.2.2.1.1 p hp).1 l, Nat.lt_of_lt_of_le (I.2.2.1.1 p hp).2.1 l, Nat.lt_of_lt_of_le (I.2.2.1.1 p hp).2.2 l⟩, MemS_ext a I.2.2.1.1 I.2.2.1.2⟩ I.2.2.2.1 I.2.2.2.2.1 rfl rfl (fun p hp => by rw [len1]; exact hL p hp) (fun v hv => Nat.lt_of_lt_of_le (hS v hv) l) k
  have e4 : cS (up ρ env.length z) S = cS ρ S := cS_ext a hS
  have this : MW (kT (fM f)) (SemK Q0 ρ fs) (fC f) (fO f) (pcA (pgT (fM f)) i) (cL (up ρ env.length z) L) (cS (up ρ env.length z) S) h := this
  rw [e4] at this
  exact this
/-- a new number on the stack -/
theorem goPut (I : Inv E Q0 h0 ρ h (f :: fs, env, dc, me)) {i t : Nat} {L : Lv} {S : List Vl} {z : Int} {r : AR} (hr : AROk E.1 ρ env.length t z r) (hL : ∀ q ∈ L, q.2.2.1 < env.length) (hS : ∀ v ∈ S, v.2.1 < env.length) (k : Sound E Q0 h0 (putR f fs env dc me i L S t r)) : MW (kT (fM f)) (SemK Q0 ρ fs) (fC f) (fO f) (pcA (pgT (fM f)) i) (cL ρ L) ((t, z) :: cS ρ S) h := by
  cases r with
  | inl v =>
    obtain ⟨e1, e2, e3⟩ := hr
    have := goSame I (i := i) (L := L) (S := v :: S) hL (fun u hu => (List.mem_cons.mp hu).elim (fun e => e ▸ e2) (hS u)) k
    have e : cv ρ v = (t, z) := by
      unfold cv
      rw [e1, e3]
    have e4 : cS ρ (v :: S) = (t, z) :: cS ρ S := by
      show cv ρ v :: cS ρ S = _
      rw [e]
    rw [e4] at this
    exact this
  | inr q =>
    obtain ⟨e1, e2⟩ := hr
    have a : ∀ b, b < env.length → up ρ env.length z b = ρ b := fun b hb => up_lt hb
    have l : env.length ≤ (env ++ [q.1]).length := by rw [len1]; omega
    have := goOn I (f' := sF f i L ((t, env.length, 0) :: S)) (ρ' := up ρ env.length z) (env' := env ++ [q.1]) (dc' := q.2 ++ dc) (me' := me) (h' := h) a l (I.1.push e1) (fun p hp => by
      rcases List.mem_append.mp hp with m | m
      · rw [len1]; exact e2 p m
      · exact DcOk_ext a l I.2.1 p m) ⟨fun p hp => ⟨Nat.lt_of_lt_of_le (I.2.2.1.1 p hp).1 l, Nat.lt_of_lt_of_le (I.2.2.1.1 p hp).2.1 l, Nat.lt_of_lt_of_le (I.2.2.1.1 p hp).2.2 l⟩, MemS_ext a I.2.2.1.1 I.2.2.1.2⟩ I.2.2.2.1 I.2.2.2.2.1 rfl rfl (fun p hp => Nat.lt_of_lt_of_le (hL p hp) l) (fun v hv => (List.mem_cons.mp hv).elim (fun e => by rw [e, len1]; exact Nat.lt_succ_self _) fun m => Nat.lt_of_lt_of_le (hS v m) l) k
    have e3 : cL (up ρ env.length z) L = cL ρ L := cL_ext a hL
    have e4 : cS (up ρ env.length z) ((t, env.length, 0) :: S) = (t, z) :: cS ρ S := by
      show cv _ _ :: cS _ S = _
      rw [cS_ext a hS]
      unfold cv
      rw [show ((t, env.length, (0 : Int)) : Vl).2.1 = env.length from rfl, up_at]
      show (t, z + 0) :: _ = _
      rw [Int.add_zero]
    have this : MW (kT (fM f)) (SemK Q0 ρ fs) (fC f) (fO f) (pcA (pgT (fM f)) i) (cL (up ρ env.length z) L) (cS (up ρ env.length z) ((t, env.length, 0) :: S)) h := this
    rw [e3, e4] at this
    exact this
end CF
