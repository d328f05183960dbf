/-! ===== bits of a row (the first rows: pasted from kit/laws/BITS) ===== -/
def bt (x : Int32) (i : Nat) : Bool := x.toBitVec.getLsbD i
theorem b_ext {x y : Int32} (h : ∀ i, i < 32 → bt x i = bt y i) : x = y := Int32.toBitVec_inj.mp (BitVec.eq_of_getLsbD_eq (fun i hi => h i hi))
theorem b_or (x y : Int32) (i : Nat) : bt (x ||| y) i = (bt x i || bt y i) := by unfold bt; rw [Int32.toBitVec_or, BitVec.getLsbD_or]
theorem b_and (x y : Int32) (i : Nat) : bt (x &&& y) i = (bt x i && bt y i) := by unfold bt; rw [Int32.toBitVec_and, BitVec.getLsbD_and]
theorem b_xor (x y : Int32) (i : Nat) : bt (x ^^^ y) i = (bt x i ^^ bt y i) := by unfold bt; rw [Int32.toBitVec_xor, BitVec.getLsbD_xor]
theorem b_m1 : ∀ i, i < 32 → bt (-1) i = true := by decide +kernel
theorem b_0 (i : Nat) : bt 0 i = false := BitVec.getLsbD_zero
theorem bt_one : ∀ k, k < 14 → ∀ i, i < 32 → bt ((1 : Int32) <<< (nI k &&& 31)) i = decide (i = k) := by decide +kernel
theorem bt_test {x : Int32} {k : Nat} (hk : k < 14) : (x &&& ((1 : Int32) <<< (nI k &&& 31))) = 0 ↔ bt x k = false := by
  refine ⟨fun h => ?_, fun h => b_ext (fun i hi => ?_)⟩
  · have := congrArg (fun y => bt y k) h
    simp only [b_and, bt_one k hk k (by omega), b_0] at this
    simpa using this
  · rw [b_and, bt_one k hk i hi, b_0]
    by_cases q : i = k
    · rw [q, h]
      rfl
    · rw [decide_eq_false q]
      simp
/-! ===== how many bits ===== -/
def bcA (x : Int32) : Int32 := x - (((x).toUInt32 >>> (((1 : Int32)).toUInt32 &&& Int32.toUInt32 31)).toInt32 &&& (1431655765 : Int32))
def bcB (x : Int32) : Int32 := (x &&& (858993459 : Int32)) + (((x).toUInt32 >>> (((2 : Int32)).toUInt32 &&& Int32.toUInt32 31)).toInt32 &&& (858993459 : Int32))
def bcC (x : Int32) : Int32 := (x + ((x).toUInt32 >>> (((4 : Int32)).toUInt32 &&& Int32.toUInt32 31)).toInt32) &&& (252645135 : Int32)
def bcD (x : Int32) : Int32 := x + ((x).toUInt32 >>> (((8 : Int32)).toUInt32 &&& Int32.toUInt32 31)).toInt32
def bcE (x : Int32) : Int32 := (x + ((x).toUInt32 >>> (((16 : Int32)).toUInt32 &&& Int32.toUInt32 31)).toInt32) &&& (63 : Int32)
def bcI (x : Int32) : Int32 := bcE (bcD (bcC (bcB (bcA x))))
theorem C_bitCount {x : Int32} {X : bS} {post : Int32 → bS → Prop} (hp : post (bcI x) X) : wp_J6_bitCount_0f7a4 post x X := hp
theorem nx_and (a b : Nat) : nI a &&& nI b = nI (a &&& b) := by
  apply Int32.toBitVec_inj.mp
  rw [Int32.toBitVec_and]
  show BitVec.ofNat 32 a &&& BitVec.ofNat 32 b = BitVec.ofNat 32 (a &&& b)
  exact BitVec.ofNat_and.symm
def ncA (m : Nat) : Nat := m - (m / 2 &&& 1431655765)
def ncB (m : Nat) : Nat := (m &&& 858993459) + (m / 4 &&& 858993459)
def ncC (m : Nat) : Nat := (m + m / 16) &&& 252645135
def ncD (m : Nat) : Nat := m + m / 256
def ncE (m : Nat) : Nat := (m + m / 65536) &&& 63
theorem and_le (a b : Nat) : a &&& b ≤ a := Nat.and_le_left
theorem bc_A {m : Nat} (h : m < 2 ^ 20) : bcA (nI m) = nI (ncA m) ∧ ncA m ≤ m := by
  have hl := and_le (m / 2) 1431655765
  refine ⟨?_, Nat.sub_le _ _⟩
  unfold bcA ncA
  rw [pk_ushrN (n := m) (by omega) (1 : Int32) 1 (by decide +kernel), show (2 : Nat) ^ 1 = 2 from rfl, show (1431655765 : Int32) = nI 1431655765 from rfl, nx_and, pk_sub (by omega)]
theorem bc_B {m : Nat} (h : m < 2 ^ 20) : bcB (nI m) = nI (ncB m) ∧ ncB m ≤ 2 * m := by
  have hl := and_le m 858993459
  have hl2 := and_le (m / 4) 858993459
  refine ⟨?_, ?_⟩
  · unfold bcB ncB
    rw [pk_ushrN (n := m) (by omega) (2 : Int32) 2 (by decide +kernel), show (2 : Nat) ^ 2 = 4 from rfl, show (858993459 : Int32) = nI 858993459 from rfl, nx_and, nx_and, nI_add]
  · unfold ncB
    omega
theorem bc_C {m : Nat} (h : m < 2 ^ 20) : bcC (nI m) = nI (ncC m) ∧ ncC m ≤ 2 * m := by
  have hl := and_le (m + m / 16) 252645135
  refine ⟨?_, ?_⟩
  · unfold bcC ncC
    rw [pk_ushrN (n := m) (by omega) (4 : Int32) 4 (by decide +kernel), show (2 : Nat) ^ 4 = 16 from rfl, show (252645135 : Int32) = nI 252645135 from rfl, nI_add, nx_and]
  · unfold ncC
    omega
theorem bc_D {m : Nat} (h : m < 2 ^ 20) : bcD (nI m) = nI (ncD m) ∧ ncD m ≤ 2 * m := by
  refine ⟨?_, ?_⟩
  · unfold bcD ncD
    rw [pk_ushrN (n := m) (by omega) (8 : Int32) 8 (by decide +kernel), show (2 : Nat) ^ 8 = 256 from rfl, nI_add]
  · unfold ncD
    omega
theorem bc_E {m : Nat} (h : m < 2 ^ 20) : bcE (nI m) = nI (ncE m) := by
  unfold bcE ncE
  rw [pk_ushrN (n := m) (by omega) (16 : Int32) 16 (by decide +kernel), show (2 : Nat) ^ 16 = 65536 from rfl, nI_add, show (63 : Int32) = nI 63 from rfl, nx_and]
def ncT (a : Nat) : Bool := (List.range 128).all (fun b => ncE (ncD (ncC (ncB (ncA (128 * a + b))))) == cnt (fun j => (128 * a + b).testBit j) 14)
theorem nc_all : (List.range 128).all ncT = true := by decide +kernel
