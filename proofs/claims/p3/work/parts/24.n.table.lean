/-! the table of X14: how much of what a beam has comes of an unknown, and what a load in it does -/
theorem mul_b {a b A B : Int} (ha : 0 ≤ a ∧ a ≤ A) (hb : 0 ≤ b ∧ b ≤ B) : 0 ≤ a * b ∧ a * b ≤ A * B := ⟨Int.mul_nonneg ha.1 hb.1, Int.mul_le_mul ha.2 hb.2 hb.1 (Int.le_trans ha.1 ha.2)⟩
theorem mul_pp {a b A B : Int} (ha : 0 < a ∧ a ≤ A) (hb : 1 ≤ b ∧ b ≤ B) : 0 < a * b ∧ a * b ≤ A * B := ⟨Int.mul_pos ha.1 (by omega), (mul_b ⟨by omega, ha.2⟩ ⟨by omega, hb.2⟩).2⟩
def cfN (n x l : Int) : Int := if n = 1 then x * l else if n = 2 then x * x * l * l else x * x * x * l * l * l
def cfU (w x u l : Int) : Int := if w = u then 1 else if w < u then (if w < 2 ∧ 1 < u then -cfN (u - w) x l else cfN (u - w) x l) else 0
def cfM (n : Int) : Int := if n = 1 then 4 else if n = 2 then 32 else 384
def cfD (w u e : Int) : Int := if w < u then (if w < 2 ∧ 1 < u then cfM (u - w) * e else cfM (u - w)) else 1
def odX (x ld : Int) : Int := if ld < x then x - ld else 0
def owU (w x ld l : Int) : Int := if w = 3 then (if ld < x then -1 else 0) else if w = 2 then -odX x ld * l else if w = 1 then odX x ld * odX x ld * l * l else odX x ld * odX x ld * odX x ld * l * l * l
def owD (w e : Int) : Int := if w = 3 then 1 else if w = 2 then 4 else if w = 1 then 32 * e else 384 * e
