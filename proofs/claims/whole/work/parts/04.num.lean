/-! numbers of the abstract machine: Int in the range of int and long, wrapped -/
def w32 (x : Int) : Int := (x + 2147483648) % 4294967296 - 2147483648
def w64 (x : Int) : Int := (x + 9223372036854775808) % 18446744073709551616 - 9223372036854775808
def w8 (x : Int) : Int := (x + 128) % 256 - 128
def okI (x : Int) : Prop := -2147483648 ≤ x ∧ x < 2147483648
def okL (x : Int) : Prop := -9223372036854775808 ≤ x ∧ x < 9223372036854775808
theorem w32_ok (x : Int) : okI (w32 x) := by unfold okI w32; omega
theorem w64_ok (x : Int) : okL (w64 x) := by unfold okL w64; omega
theorem w8_ok (x : Int) : okI (w8 x) := by unfold okI w8; omega
theorem w32_id {x : Int} (h : okI x) : w32 x = x := by unfold okI at h; unfold w32; omega
theorem w64_id {x : Int} (h : okL x) : w64 x = x := by unfold okL at h; unfold w64; omega
theorem okI_L {x : Int} (h : okI x) : okL x := by unfold okI at h; unfold okL; omega
theorem bm_eq {x : Int} : w32 x = x.bmod (2 ^ 32) := by
  unfold w32
  rw [Int.bmod_def]
  split <;> omega
theorem bm_eqL {x : Int} : w64 x = x.bmod (2 ^ 64) := by
  unfold w64
  rw [Int.bmod_def]
  split <;> omega
theorem to_of (x : Int) : (Int32.ofInt x).toInt = w32 x := by rw [Int32.toInt_ofInt, bm_eq]
theorem to_ofL (x : Int) : (Int64.ofInt x).toInt = w64 x := by rw [Int64.toInt_ofInt, bm_eqL]
theorem to_ok {x : Int} (h : okI x) : (Int32.ofInt x).toInt = x := by rw [to_of, w32_id h]
theorem to_okL {x : Int} (h : okL x) : (Int64.ofInt x).toInt = x := by rw [to_ofL, w64_id h]
theorem ok_of (x : Int32) : okI x.toInt := by
  have h1 := Int32.le_toInt x
  have h2 := Int32.toInt_lt x
  unfold okI
  omega
theorem ok_ofL (x : Int64) : okL x.toInt := by
  have h1 := Int64.le_toInt x
  have h2 := Int64.toInt_lt x
  unfold okL
  omega
theorem w32_w32 (x : Int) : w32 (w32 x) = w32 x := w32_id (w32_ok x)
theorem w32_ex (z : Int) : ∃ k, w32 z = z + 4294967296 * k := ⟨-((z + 2147483648) / 4294967296), by unfold w32; omega⟩
theorem w32_sh (z k : Int) : w32 (z + 4294967296 * k) = w32 z := by unfold w32; omega
theorem of_add (x y : Int) : Int32.ofInt x + Int32.ofInt y = Int32.ofInt (w32 (x + y)) := by
  apply Int32.toInt_inj.mp
  rw [Int32.toInt_add, to_of, to_of, to_of, ← bm_eq]
  unfold w32
  omega
theorem of_sub (x y : Int) : Int32.ofInt x - Int32.ofInt y = Int32.ofInt (w32 (x - y)) := by
  apply Int32.toInt_inj.mp
  rw [Int32.toInt_sub, to_of, to_of, to_of, ← bm_eq]
  unfold w32
  omega
theorem of_neg (x : Int) : -Int32.ofInt x = Int32.ofInt (w32 (-x)) := by
  apply Int32.toInt_inj.mp
  rw [Int32.toInt_neg, to_of, to_of, ← bm_eq]
  unfold w32
  omega
theorem of_mul {x y : Int} (hx : okI x) (hy : okI y) : Int32.ofInt x * Int32.ofInt y = Int32.ofInt (w32 (x * y)) := by
  apply Int32.toInt_inj.mp
  rw [Int32.toInt_mul, to_ok hx, to_ok hy, to_of, ← bm_eq, w32_w32]
theorem of_inj {x y : Int} (hx : okI x) (hy : okI y) : Int32.ofInt x = Int32.ofInt y ↔ x = y := by
  rw [← Int32.toInt_inj, to_ok hx, to_ok hy]
theorem of_lt {x y : Int} (hx : okI x) (hy : okI y) : Int32.ofInt x < Int32.ofInt y ↔ x < y := by
  rw [Int32.lt_iff_toInt_lt, to_ok hx, to_ok hy]
theorem of_le {x y : Int} (hx : okI x) (hy : okI y) : Int32.ofInt x ≤ Int32.ofInt y ↔ x ≤ y := by
  rw [Int32.le_iff_toInt_le, to_ok hx, to_ok hy]
theorem okI_0 : okI 0 := by unfold okI; omega
theorem of_0 : Int32.ofInt 0 = 0 := rfl
theorem of_div {x y : Int} (hx : okI x) (hy : okI y) : Int32.ofInt x / Int32.ofInt y = Int32.ofInt (w32 (x.tdiv y)) := by
  apply Int32.toInt_inj.mp
  rw [Int32.toInt_div, to_ok hx, to_ok hy, to_of, ← bm_eq, w32_w32]
theorem of_rem {x y : Int} (hx : okI x) (hy : okI y) : Int32.ofInt x - Int32.ofInt x / Int32.ofInt y * Int32.ofInt y = Int32.ofInt (w32 (x.tmod y)) := by
  rw [of_div hx hy, of_mul (w32_ok _) hy, of_sub]
  apply Int32.toInt_inj.mp
  rw [to_of, to_of, w32_w32, w32_w32]
  have h : x.tmod y = x - y * x.tdiv y := Int.tmod_def x y
  rw [h]
  generalize x.tdiv y = q
  obtain ⟨k1, h1⟩ := w32_ex q
  obtain ⟨k2, h2⟩ := w32_ex (w32 q * y)
  rw [h2, h1]
  have e : (q + 4294967296 * k1) * y = q * y + 4294967296 * (k1 * y) := by rw [Int.add_mul, Int.mul_assoc]
  rw [e, Int.mul_comm y q]
  generalize q * y = a
  generalize k1 * y = b
  have e2 : x - (a + 4294967296 * b + 4294967296 * k2) = (x - a) + 4294967296 * (-b - k2) := by omega
  rw [e2, w32_sh]
/-! operators that are told by those of Int32 -/
def shlI (x y : Int) : Int := (Int32.ofInt x <<< (Int32.ofInt y &&& 31)).toInt
def shrI (x y : Int) : Int := (Int32.ofInt x >>> (Int32.ofInt y &&& 31)).toInt
def ushI (x y : Int) : Int := (((Int32.ofInt x).toUInt32 >>> ((Int32.ofInt y).toUInt32 &&& Int32.toUInt32 31)).toInt32).toInt
def andI (x y : Int) : Int := (Int32.ofInt x &&& Int32.ofInt y).toInt
def orI (x y : Int) : Int := (Int32.ofInt x ||| Int32.ofInt y).toInt
def xorI (x y : Int) : Int := (Int32.ofInt x ^^^ Int32.ofInt y).toInt
theorem as_of (z : Int32) : Int32.ofInt z.toInt = z := Int32.ofInt_toInt z
theorem as_ofL (z : Int64) : Int64.ofInt z.toInt = z := Int64.ofInt_toInt z
theorem of_byte (x : Int) : (Int32.ofInt x).toInt8.toInt32 = Int32.ofInt (w8 x) := by
  apply Int32.toInt_inj.mp
  rw [Int8.toInt_toInt32, Int32.toInt_toInt8, to_of, to_ok (w8_ok x)]
  unfold w8 w32
  rw [Int.bmod_def]
  split <;> omega
theorem of_long {x : Int} (h : okI x) : (Int32.ofInt x).toInt64 = Int64.ofInt x := by
  apply Int64.toInt_inj.mp
  rw [Int32.toInt_toInt64, to_ok h, to_okL (okI_L h)]
theorem of_addL (x y : Int) : Int64.ofInt x + Int64.ofInt y = Int64.ofInt (w64 (x + y)) := by
  apply Int64.toInt_inj.mp
  rw [Int64.toInt_add, to_ofL, to_ofL, to_ofL, ← bm_eqL]
  unfold w64
  omega
theorem of_subL (x y : Int) : Int64.ofInt x - Int64.ofInt y = Int64.ofInt (w64 (x - y)) := by
  apply Int64.toInt_inj.mp
  rw [Int64.toInt_sub, to_ofL, to_ofL, to_ofL, ← bm_eqL]
  unfold w64
  omega
theorem of_mulL {x y : Int} (hx : okL x) (hy : okL y) : Int64.ofInt x * Int64.ofInt y = Int64.ofInt (w64 (x * y)) := by
  apply Int64.toInt_inj.mp
  rw [Int64.toInt_mul, to_okL hx, to_okL hy, to_ofL, ← bm_eqL, w64_id (w64_ok _)]
def cmpL (x y : Int) : Int := if y < x then 1 else if x = y then 0 else -1
theorem cmpL_ok (x y : Int) : okI (cmpL x y) := by
  unfold cmpL okI
  split
  · omega
  · split <;> omega
theorem of_cmpL {x y : Int} (hx : okL x) (hy : okL y) : lg_cmp (Int64.ofInt x) (Int64.ofInt y) = Int32.ofInt (cmpL x y) := by
  unfold lg_cmp cmpL
  simp only [gt_iff_lt, Int64.lt_iff_toInt_lt, ← Int64.toInt_inj, to_okL hx, to_okL hy]
  split
  · rfl
  · split <;> rfl
theorem in_of {i : Int} {n : Nat} (h : okI i) (h0 : 0 ≤ i) (h1 : i < n) : vp_in (Int32.ofInt i) n := by
  rw [vp_in_iff, to_ok h]
  exact ⟨h0, h1⟩
theorem cl_of {i : Int} (h : okI i) : (Int32.ofInt i).toNatClampNeg = i.toNat := by
  show (Int32.ofInt i).toInt.toNat = i.toNat
  rw [to_ok h]
