/-! X1: the first number set -/
theorem set_dm {r : Int} (h : r ≤ 0) : r.tdiv 1073741824 = -((-r) / 1073741824) ∧ r.tmod 1073741824 = -((-r) % 1073741824) := by
  have e : r = -(-r) := by omega
  constructor
  · rw [show r.tdiv 1073741824 = (-(-r)).tdiv 1073741824 by rw [← e], Int.neg_tdiv, Int.tdiv_eq_ediv_of_nonneg (by omega)]
  · rw [show r.tmod 1073741824 = (-(-r)).tmod 1073741824 by rw [← e], Int.neg_tmod, Int.tmod_eq_emod_of_nonneg (by omega)]
theorem set_end {f : Int → Int} {n : Nat} {r V : Int} (d : Dg1 f n) (r0 : r ≤ 0) (e : nv1 f n + (-r) * 1073741824 ^ n = V) (n3 : r ≠ 0 → 3 ≤ n) (v : V ≤ 9223372036854775808) : r = 0 := by
  have a := (nv1_b d).1
  by_cases q : r = 0
  · exact q
  · exfalso
    have b := p30_mono (n3 q)
    have c := Int.mul_le_mul_of_nonneg_right (show 1 ≤ -r by omega) (Int.le_of_lt (p30_pos n))
    have z : (1073741824 : Int) ^ 3 = 1237940039285380274899124224 := by decide
    rw [z] at b
    omega
theorem row2 {P r b t : Int} {k : Nat} (h : r = b + 1073741824 * t) : P + b * 1073741824 ^ k + t * 1073741824 ^ (k + 1) = P + r * 1073741824 ^ k := by
  rw [p30_s, h, Int.add_mul, Int.mul_comm 1073741824 t, Int.mul_assoc]
  omega
