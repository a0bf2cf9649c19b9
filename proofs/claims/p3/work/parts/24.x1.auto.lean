/-! what a call may have changed; values told anew; rules where numbers wrap -/
def upw (f : Int → Int) (i v : Int) : Int → Int := fun j => if j.toNat = i.toNat then v else f j
theorem ga_upw {h h' : MH} {c : Nat} {i v : Int} (e : h' = sa h c i v) : ga h' c = upw (ga h c) i v := by
  funext j
  rw [e]
  unfold ga sa hset upw
  show ((if c = c then _ else _ : MC)).2.2 j.toNat = _
  rw [if_pos rfl]
theorem ga_upn {h h' : MH} {c d : Nat} {i v : Int} (e : h' = sa h c i v) (n : d ≠ c) : ga h' d = ga h d := by
  funext j
  rw [e]
  exact ga_ne _ _ _ _ n j
theorem upw_at {f : Int → Int} {i v j : Int} (i0 : 0 ≤ i) (j0 : 0 ≤ j) : upw f i v j = if j = i then v else f j := by
  unfold upw
  have : (j.toNat = i.toNat) ↔ (j = i) := by omega
  simp only [this]
theorem upw_self {f : Int → Int} {i v : Int} : upw f i v i = v := if_pos rfl
theorem upw_no {f : Int → Int} {i v j : Int} (i0 : 0 ≤ i) (j0 : 0 ≤ j) (n : j ≠ i) : upw f i v j = f j := by rw [upw_at i0 j0, if_neg n]
/-- all of the first n lie within bounds -/
def Rng (a : Int → Int) (n lo hi : Int) : Prop := ∀ i : Int, 0 ≤ i → i < n → lo ≤ a i ∧ a i ≤ hi
theorem Rng.upw {a : Int → Int} {n lo hi i v : Int} (r : Rng a n lo hi) (i0 : 0 ≤ i) (k : i < n → lo ≤ v ∧ v ≤ hi) : Rng (upw a i v) n lo hi := fun j j0 j1 => by
  rw [upw_at i0 j0]
  split
  · next e => exact k (e ▸ j1)
  · exact r j j0 j1
theorem Rng.le {a : Int → Int} {n m lo hi lo2 hi2 : Int} (r : Rng a n lo hi) (k : m ≤ n) (l : lo2 ≤ lo) (u : hi ≤ hi2) : Rng a m lo2 hi2 := fun j j0 j1 => by
  have := r j j0 (by omega)
  omega
theorem Rng.one {a : Int → Int} {n lo hi : Int} (r : Rng a n lo hi) (k : lo ≤ a n ∧ a n ≤ hi) : Rng a (n + 1) lo hi := fun j j0 j1 => by
  by_cases e : j = n
  · rw [e]
    exact k
  · exact r j j0 (by omega)
/-- all of the first n, m steps apart, from the k-th on -/
def Rn (a : Int → Int) (n m k lo hi : Int) : Prop := ∀ i : Int, 0 ≤ i → i < n → lo ≤ a (m * i + k) ∧ a (m * i + k) ≤ hi
theorem Rn.upw {a : Int → Int} {n m k lo hi i v : Int} (r : Rn a n m k lo hi) (i0 : 0 ≤ i) (m0 : 0 ≤ m) (k0 : 0 ≤ k) (w : ∀ j, 0 ≤ j → j < n → m * j + k = i → lo ≤ v ∧ v ≤ hi) : Rn (upw a i v) n m k lo hi := fun j j0 j1 => by
  have := Int.mul_nonneg m0 j0
  rw [upw_at i0 (by omega)]
  split
  · next e => exact w j j0 j1 e
  · exact r j j0 j1
theorem Rn.one {a : Int → Int} {n m k lo hi : Int} (r : Rn a n m k lo hi) (w : lo ≤ a (m * n + k) ∧ a (m * n + k) ≤ hi) : Rn a (n + 1) m k lo hi := fun j j0 j1 => by
  by_cases e : j = n
  · rw [e]
    exact w
  · exact r j j0 (by omega)
theorem Rn.le {a : Int → Int} {n n2 m k lo hi lo2 hi2 : Int} (r : Rn a n m k lo hi) (w : n2 ≤ n) (l : lo2 ≤ lo) (u : hi ≤ hi2) : Rn a n2 m k lo2 hi2 := fun j j0 j1 => by
  have := r j j0 (by omega)
  omega
/-- of h, only the object's fields fs and the cells cs changed -/
def Wd (ob : Nat) (cs : List Nat) (fs : List Int) (h h' : MH) : Prop := Only (ob :: cs) h h' ∧ ∀ j : Int, 0 ≤ j → j ∉ fs → ga h' ob j = ga h ob j
theorem Wd.refl (ob : Nat) (cs : List Nat) (fs : List Int) (h : MH) : Wd ob cs fs h h := ⟨Only.refl _ _, fun _ _ _ => rfl⟩
theorem Wd.trans {ob : Nat} {cs ds : List Nat} {fs gs : List Int} {h h' h'' : MH} (a : Wd ob cs fs h h') (b : Wd ob ds gs h' h'') (s : ∀ c ∈ ds, c ∈ cs) (t : ∀ f ∈ gs, f ∈ fs) : Wd ob cs fs h h'' :=
  ⟨a.1.trans (b.1.mono fun c m => by
    rcases List.mem_cons.mp m with e | m
    · exact e ▸ List.mem_cons_self
    · exact List.mem_cons_of_mem _ (s c m)), fun j j0 n => (b.2 j j0 fun m => n (t j m)).trans (a.2 j j0 n)⟩
theorem Wd.mono {ob : Nat} {cs ds : List Nat} {fs gs : List Int} {h h' : MH} (b : Wd ob ds gs h h') (s : ∀ c ∈ ds, c ∈ cs) (t : ∀ f ∈ gs, f ∈ fs) : Wd ob cs fs h h' := (Wd.refl ob cs fs h).trans b s t
theorem Wd.wF {ob : Nat} {cs : List Nat} {fs : List Int} {h h' h2 : MH} {f v : Int} (a : Wd ob cs fs h h') (e : h2 = sa h' ob f v) (f0 : 0 ≤ f) (m : f ∈ fs) : Wd ob cs fs h h2 :=
  ⟨a.1.trans ((Only.wr e).mono fun c q => by
    rcases List.mem_singleton.mp q with e
    exact e ▸ List.mem_cons_self), fun j j0 n => by
    rw [ga_wr e f0 j0, if_neg fun q : j = f => n (q ▸ m)]
    exact a.2 j j0 n⟩
theorem Wd.wA {ob : Nat} {cs : List Nat} {fs : List Int} {h h' h2 : MH} {c : Nat} {i v : Int} (a : Wd ob cs fs h h') (e : h2 = sa h' c i v) (m : c ∈ cs) (n : ob ≠ c) : Wd ob cs fs h h2 :=
  ⟨a.1.trans ((Only.wr e).mono fun d q => by
    rcases List.mem_singleton.mp q with e
    exact e ▸ List.mem_cons_of_mem _ m), fun j j0 q => by
    rw [ga_upn e n]
    exact a.2 j j0 q⟩
theorem Wd.arr {ob : Nat} {cs : List Nat} {fs : List Int} {h h' : MH} (a : Wd ob cs fs h h') {c : Nat} (n : c ∉ ob :: cs) (j : Int) : ga h' c j = ga h c j := a.1.ga n j
theorem Wd.arF {ob : Nat} {cs : List Nat} {fs : List Int} {h h' : MH} (a : Wd ob cs fs h h') {c : Nat} (n : c ∉ ob :: cs) : ga h' c = ga h c := funext fun j => a.1.ga n j
theorem Wd.fld {ob : Nat} {cs : List Nat} {fs : List Int} {h h' : MH} (a : Wd ob cs fs h h') {j : Int} (j0 : 0 ≤ j) (n : j ∉ fs) : ga h' ob j = ga h ob j := a.2 j j0 n
section MDX
variable {K : mK} {Qr : MO → MH → Prop} {mc ms pc : Nat} {L : List (Nat × MV)} {S : List MV} {h : MH}
theorem m_ldivQ (pc' : Nat) (hd : decode K.2.2.1 pc = .ok (.ldiv, 1)) (hp : pc + 1 = pc') {x y : Int} (hy : y ≠ 0) (k : MW K Qr mc ms pc' L ((1, (Int64.ofInt x / Int64.ofInt y).toInt) :: S) h) : MW K Qr mc ms pc L ((1, y) :: (1, x) :: S) h := by
  subst hp
  refine m_st _ (fun oL o => mokS_l (mL_rng _) ((mokS_cons.mp (mokS_cons.mp o).2).2)) (fun ad p l e R s m args below meth c H locs cells slots Q ls hx hb hl hown hts oL oS kk => lv_ldiv hx hb hd (mL_ne0 (mok_l (mokS_cons.mp oS).1) hy) (by rw [← Int64.ofInt_toInt (_ / _)]; exact kk)) k
end MDX
section
variable {K : mK} {Q : MO → MH → Prop} {mc ms : Nat} {P : MP} {o : Nat} {i pc : Nat} {zz : Int} {bb cc : Nat} {L : List (Nat × MV)} {S : List MV} {h : MH}
theorem hd_ldivQ (ok : okP K o P = true) {aa : Nat} {x y : Int} (hi : P.1[i]? = some (pc, 22, zz, aa, bb, cc)) (h0 : y ≠ 0) (k : ∀ v : Int, v = (Int64.ofInt x / Int64.ofInt y).toInt → (-9223372036854775808 ≤ v ∧ v ≤ 9223372036854775807) → MW K Q mc ms (pcA P (i + 1)) L ((1, v) :: S) h) : MW K Q mc ms (pcA P i) L ((1, y) :: (1, x) :: S) h := by
  have ok := okP_at ok hi
  have hp : pcA P i = pc := by
    unfold pcA
    rw [hi]
  rw [hp]
  have d : decode K.2.2.1 pc = .ok (.ldiv, 1) ∧ pc + 1 = pcA P (i + 1) := okD_of ok.1
  exact m_ldivQ _ d.1 d.2 h0 (k _ rfl (mL_rng _))
theorem hd_inegW (ok : okP K o P = true) {aa : Nat} {x : Int} (hi : P.1[i]? = some (pc, 15, zz, aa, bb, cc)) (k : MW K Q mc ms (pcA P (i + 1)) L ((0, wrI (-x)) :: S) h) : MW K Q mc ms (pcA P i) L ((0, x) :: S) h := so1 ok hi ⟨rfl, k⟩
theorem hd_lnegW (ok : okP K o P = true) {aa : Nat} {x : Int} (hi : P.1[i]? = some (pc, 19, zz, aa, bb, cc)) (k : MW K Q mc ms (pcA P (i + 1)) L ((1, wrL (-x)) :: S) h) : MW K Q mc ms (pcA P i) L ((1, x) :: S) h := so1 ok hi ⟨rfl, k⟩
theorem hd_l2iW (ok : okP K o P = true) {aa : Nat} {x : Int} (hi : P.1[i]? = some (pc, 36, zz, aa, bb, cc)) (k : MW K Q mc ms (pcA P (i + 1)) L ((0, wrI x) :: S) h) : MW K Q mc ms (pcA P i) L ((1, x) :: S) h := so1 ok hi ⟨rfl, k⟩
theorem hd_iincW (ok : okP K o P = true) {a : Nat} {x z : Int} (hi : P.1[i]? = some (pc, 11, z, a, bb, cc)) (hl : mlook L a = some (0, x)) {L2 : List (Nat × MV)} (hL : mput L a (0, wrI (x + z)) = L2) (k : MW K Q mc ms (pcA P (i + 1)) L2 S h) : MW K Q mc ms (pcA P i) L S h := so1 ok hi (by
  show (match mlook L a with
    | some v => v.1 = 0 ∧ kMW K Q mc ms P (i + 1) (mput L a (0, wrI (v.2 + z))) S h
    | none => False)
  rw [hl]
  refine ⟨rfl, ?_⟩
  show kMW K Q mc ms P (i + 1) (mput L a (0, wrI (x + z))) S h
  rw [hL]
  exact k)
theorem hd_lremQ (ok : okP K o P = true) {aa : Nat} {x y : Int} (hi : P.1[i]? = some (pc, 23, zz, aa, bb, cc)) (h0 : y ≠ 0) (hr : -9223372036854775808 ≤ y ∧ y ≤ 9223372036854775808) (k : ∀ v : Int, v = Int.tmod x y → (-9223372036854775808 ≤ v ∧ v ≤ 9223372036854775807) → MW K Q mc ms (pcA P (i + 1)) L ((1, v) :: S) h) : MW K Q mc ms (pcA P i) L ((1, y) :: (1, x) :: S) h := by
  have b := m_tmodG (x := x) h0 (M := 9223372036854775808) hr.1 hr.2
  exact hd_lrem ok hi h0 (by omega) (k _ rfl (by omega))
end
