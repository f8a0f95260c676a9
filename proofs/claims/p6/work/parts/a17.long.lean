/-! windows packed into a long, four bits each -/
def zv_pn (c : List Nat) : Nat := c.foldr (fun x a => x + 16 * a) 0
theorem zv_pn_app : ∀ (c : List Nat) (x : Nat), zv_pn (c ++ [x]) = zv_pn c + 16 ^ c.length * x
  | [], x => by
    show x + 16 * 0 = 0 + 16 ^ 0 * x
    omega
  | a :: c, x => by
    show a + 16 * zv_pn (c ++ [x]) = a + 16 * zv_pn c + 16 ^ (c.length + 1) * x
    rw [zv_pn_app c x, Nat.pow_succ, Nat.mul_add, Nat.mul_comm (16 ^ c.length) 16, Nat.mul_assoc]
    omega
theorem zv_pn_lt : ∀ (c : List Nat), (∀ x ∈ c, x < 10) → zv_pn c < 16 ^ c.length
  | [], _ => by decide
  | a :: c, h => by
    show a + 16 * zv_pn c < 16 ^ (c.length + 1)
    have h1 := zv_pn_lt c (fun x hx => h x (List.mem_cons_of_mem _ hx))
    have h2 := h a List.mem_cons_self
    rw [Nat.pow_succ]
    omega
theorem zv_pn_dec : ∀ (c : List Nat) (i : Nat), (∀ x ∈ c, x < 10) → zv_pn c / 16 ^ i % 16 = c.getD i 0
  | [], i, _ => by
    show 0 / 16 ^ i % 16 = 0
    rw [Nat.zero_div]
  | a :: c, 0, h => by
    have h2 := h a List.mem_cons_self
    show (a + 16 * zv_pn c) / 16 ^ 0 % 16 = a
    rw [Nat.pow_zero, Nat.div_one]
    omega
  | a :: c, i + 1, h => by
    have h2 := h a List.mem_cons_self
    show (a + 16 * zv_pn c) / 16 ^ (i + 1) % 16 = c.getD i 0
    rw [Nat.pow_succ, Nat.mul_comm (16 ^ i) 16, ← Nat.div_div_eq_div_mul]
    have : (a + 16 * zv_pn c) / 16 = zv_pn c := by omega
    rw [this]
    exact zv_pn_dec c i (fun x hx => h x (List.mem_cons_of_mem _ hx))
theorem zv_sh63 : ∀ n, n < 10 → ((nI (4 * n)).toInt64 &&& 63).toBitVec.smod 64 = BitVec.ofNat 64 (4 * n) := by decide +kernel
theorem zv_i64 : ∀ x, x < 10 → (nI x).toInt64.toBitVec = BitVec.ofNat 64 x := by decide +kernel
theorem zv_i32 : ∀ x, x < 16 → (Int64.ofBitVec (BitVec.ofNat 64 x)).toInt32 = nI x := by decide +kernel
theorem zv_16 (n : Nat) : 16 ^ n = 2 ^ (4 * n) := by rw [Nat.pow_mul]
theorem zv_16le {n : Nat} (h : n ≤ 10) : 2 ^ (4 * n) ≤ 2 ^ 40 := Nat.pow_le_pow_right (by decide) (by omega)
/-- one more -/
theorem zv_enc {W : Int64} {c : List Nat} {x : Nat} (hW : W.toBitVec.toNat = zv_pn c) (hc : ∀ y ∈ c, y < 10) (hx : x < 10) (hn : c.length < 10) : (W ||| ((nI x).toInt64 <<< ((nI (4 * c.length)).toInt64 &&& 63))).toBitVec.toNat = zv_pn (c ++ [x]) := by
  rw [Int64.toBitVec_or, Int64.toBitVec_shiftLeft, zv_sh63 _ hn, zv_i64 x hx, BitVec.toNat_or, hW, zv_pn_app]
  have hlt := zv_pn_lt c hc
  rw [zv_16] at hlt ⊢
  have hle := zv_16le (n := c.length + 1) (by omega)
  rw [BitVec.shiftLeft_eq', BitVec.toNat_shiftLeft, BitVec.toNat_ofNat, BitVec.toNat_ofNat, Nat.mod_eq_of_lt (a := 4 * c.length) (by omega), Nat.mod_eq_of_lt (a := x) (by omega), Nat.shiftLeft_eq]
  have h4 : 2 ^ (4 * (c.length + 1)) = 2 ^ (4 * c.length) * 16 := by rw [Nat.mul_add, Nat.pow_add]
  rw [h4] at hle
  have hb : x * 2 ^ (4 * c.length) < 2 ^ 64 := by
    have : x * 2 ^ (4 * c.length) ≤ 16 * 2 ^ (4 * c.length) := Nat.mul_le_mul_right _ (by omega)
    omega
  rw [Nat.mod_eq_of_lt hb, Nat.or_comm, ← Nat.shiftLeft_eq, ← Nat.shiftLeft_add_eq_or_of_lt hlt, Nat.shiftLeft_eq, Nat.add_comm, Nat.mul_comm]
/-- the one at i -/
theorem zv_dec {W : Int64} {c : List Nat} {i : Nat} (hW : W.toBitVec.toNat = zv_pn c) (hc : ∀ y ∈ c, y < 10) (hn : c.length ≤ 10) (hi : i < c.length) : ((W >>> ((nI (4 * i)).toInt64 &&& 63)) &&& 15).toInt32 = nI (c.getD i 0) := by
  have hlt := zv_pn_lt c hc
  rw [zv_16] at hlt
  have hle := zv_16le hn
  have hm : W.toBitVec.msb = false := by
    rw [BitVec.msb_eq_false_iff_two_mul_lt, hW]
    have : (2 : Nat) ^ 40 * 2 ≤ 2 ^ 64 := by decide
    omega
  have hd := zv_pn_dec c i hc
  have h10 : c.getD i 0 < 10 := hc _ (zl_mem hi)
  have e : (W >>> ((nI (4 * i)).toInt64 &&& 63)) &&& 15 = Int64.ofBitVec (BitVec.ofNat 64 (c.getD i 0)) := by
    apply Int64.toBitVec_inj.mp
    rw [Int64.toBitVec_and, Int64.toBitVec_shiftRight, zv_sh63 _ (by omega), Int64.toBitVec_ofBitVec]
    apply BitVec.eq_of_toNat_eq
    have e15 : (15 : Int64).toBitVec.toNat = 2 ^ 4 - 1 := by decide
    rw [BitVec.toNat_and, e15, Nat.and_two_pow_sub_one_eq_mod]
    have : (W.toBitVec.sshiftRight' (BitVec.ofNat 64 (4 * i))).toNat = zv_pn c / 16 ^ i := by
      rw [BitVec.sshiftRight_eq', BitVec.sshiftRight_eq_of_msb_false hm, BitVec.toNat_ushiftRight, hW, BitVec.toNat_ofNat, Nat.mod_eq_of_lt (by omega), Nat.shiftRight_eq_div_pow, zv_16]
    rw [this, BitVec.toNat_ofNat, Nat.mod_eq_of_lt (a := c.getD i 0) (by omega)]
    exact hd
  rw [e, zv_i32 _ (by omega)]
