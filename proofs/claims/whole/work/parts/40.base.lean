/-! the maths, basics: reading what was written; ints as whole numbers -/
theorem gi_si_if (dy : DY) (a k : Nat) (v : Int32) (b j : Nat) : gi (si dy a k v) b j = if b = a ∧ j = k then v else gi dy b j := rfl
theorem gl_si_eq (dy : DY) (a k : Nat) (v : Int32) (b j : Nat) : gl (si dy a k v) b j = gl dy b j := rfl
theorem gi_sl_eq (dy : DY) (a k : Nat) (v : Int64) (b j : Nat) : gi (sl dy a k v) b j = gi dy b j := rfl
theorem gl_sl_if (dy : DY) (a k : Nat) (v : Int64) (b j : Nat) : gl (sl dy a k v) b j = if b = a ∧ j = k then v else gl dy b j := rfl
theorem gi_cpi_if (dy : DY) (a b sp dp n x y : Nat) : gi (cpi dy a b sp dp n) x y = if x = b ∧ dp ≤ y ∧ y < dp + n then gi dy a (sp + (y - dp)) else gi dy x y := rfl
theorem gl_cpi_eq (dy : DY) (a b sp dp n x y : Nat) : gl (cpi dy a b sp dp n) x y = gl dy x y := rfl
theorem bd_eq {α β : Type} (v : α) (f : α → Option β) : bd v f = f v := rfl
theorem sb_eq {α β : Type} (v : α) (f : α → Option β) : (some v).bind f = f v := rfl
/-- a whole number as an int -/
def iz (z : Int) : Int32 := Int32.ofInt z
theorem iz_add (a b : Int) : iz a + iz b = iz (a + b) := (Int32.ofInt_add a b).symm
theorem iz_sub (a b : Int) : iz a - iz b = iz (a - b) := (Int32.ofInt_sub a b).symm
theorem iz_mul (a b : Int) : iz a * iz b = iz (a * b) := (Int32.ofInt_mul a b).symm
theorem iz_neg (a : Int) : - iz a = iz (-a) := (Int32.ofInt_neg a).symm
theorem iz_ofNat (n : Nat) : Int32.ofNat n = iz n := rfl
theorem iz_lit (n : Nat) : (OfNat.ofNat n : Int32) = iz (n : Int) := rfl
theorem iz_neg1 : (-1 : Int32) = iz (-1) := rfl
theorem iz_toInt {a : Int} (h1 : -2147483648 ≤ a) (h2 : a < 2147483648) : (iz a).toInt = a := by
  unfold iz
  rw [Int32.toInt_ofInt]
  rw [Int.bmod_def]
  rw [show ((Int32.size : Nat) : Int) = 4294967296 from rfl]
  omega
theorem iz_tn {a : Int} (h1 : -2147483648 ≤ a) (h2 : a < 2147483648) : (iz a).toNatClampNeg = a.toNat := by
  show (iz a).toInt.toNat = a.toNat
  rw [iz_toInt h1 h2]
theorem iz_lt {a b : Int} (h1 : -2147483648 ≤ a) (h2 : a < 2147483648) (h3 : -2147483648 ≤ b) (h4 : b < 2147483648) : iz a < iz b ↔ a < b := by
  rw [Int32.lt_iff_toInt_lt, iz_toInt h1 h2, iz_toInt h3 h4]
theorem iz_le {a b : Int} (h1 : -2147483648 ≤ a) (h2 : a < 2147483648) (h3 : -2147483648 ≤ b) (h4 : b < 2147483648) : iz a ≤ iz b ↔ a ≤ b := by
  rw [Int32.le_iff_toInt_le, iz_toInt h1 h2, iz_toInt h3 h4]
theorem iz_inj {a b : Int} (h1 : -2147483648 ≤ a) (h2 : a < 2147483648) (h3 : -2147483648 ≤ b) (h4 : b < 2147483648) : iz a = iz b ↔ a = b := by
  rw [← Int32.toInt_inj, iz_toInt h1 h2, iz_toInt h3 h4]
theorem iz_self (x : Int32) : iz x.toInt = x := Int32.ofInt_toInt x
theorem iz_ex (x : Int32) : ∃ z : Int, x = iz z ∧ -2147483648 ≤ z ∧ z < 2147483648 := ⟨x.toInt, (iz_self x).symm, x.le_toInt, by have := x.toInt_lt; omega⟩
theorem ib_iz {a : Int} {n : Nat} (h1 : -2147483648 ≤ a) (h2 : a < 2147483648) : ib (iz a) n ↔ 0 ≤ a ∧ a < n := by
  unfold ib
  rw [iz_toInt h1 h2]
