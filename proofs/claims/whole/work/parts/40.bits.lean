theorem at_g {n k i : Nat} {f : Nat → Int32} (h1 : i < k) (h2 : i < n) (hk : k < 2 ^ 31) (hn : n < 2 ^ 31) : s_Packet_at n f k (nI i) = f i := by
  simp only [s_Packet_at, bnd]
  rw [if_neg (nI_pos (by omega)), if_neg (nI_ge h1 hk), if_neg (nI_ge h2 hn), nI_clamp (by omega)]
/-- one bit of the check: the program's and the reference's -/
def bC (y : Int32) : Int32 := if (y &&& 1) = 1 then ((y >>> (1 &&& 31)) ^^^ 224) else (y >>> (1 &&& 31))
def bM (y : Int32) : Int32 := if (y - y / 2 * 2) = 1 then ((y / 2) ^^^ 224) else (y / 2)
theorem bCM : ∀ b : Nat, b < 256 → bC (nI b) = bM (nI b) ∧ bM (nI b) = nI (bM (nI b)).toNatClampNeg ∧ (bM (nI b)).toNatClampNeg < 256 := by decide +kernel
theorem bCM2 {b : Nat} (h : b < 256) : ∃ c : Nat, c < 256 ∧ bC (nI b) = nI c ∧ bM (nI b) = nI c := by
  obtain ⟨h1, h2, h3⟩ := bCM b h
  exact ⟨_, h3, h1.trans h2, h2⟩
theorem xorb {a b : Nat} (ha : a < 256) (hb : b < 256) : ∃ c : Nat, c < 256 ∧ nI a ^^^ nI b = nI c := by
  refine ⟨a ^^^ b, Nat.xor_lt_two_pow (n := 8) ha hb, ?_⟩
  apply Int32.toBitVec_inj.mp
  apply BitVec.eq_of_toNat_eq
  rw [Int32.toBitVec_xor, BitVec.toNat_xor, pk_tn (by omega), pk_tn (by omega), pk_tn (Nat.lt_of_lt_of_le (Nat.xor_lt_two_pow (n := 8) ha hb) (by decide))]
/-- a byte -/
def By (x : Int32) : Prop := ∃ b : Nat, b < 256 ∧ x = nI b
def mixC (x y : Int32) : Int32 := bnd (α := Int32) (bC (x ^^^ y)) (fun y1 => bnd (α := Int32) (bC y1) (fun y2 => bnd (α := Int32) (bC y2) (fun y3 => bnd (α := Int32) (bC y3) (fun y4 => bnd (α := Int32) (bC y4) (fun y5 => bnd (α := Int32) (bC y5) (fun y6 => bnd (α := Int32) (bC y6) (fun y7 => bnd (α := Int32) (bC y7) (fun y8 => y8))))))))
theorem mix_eq (x y : Int32) : s_Model_mixed x y = bnd (α := Int32) (bM (x ^^^ y)) (fun y1 => bnd (α := Int32) (bM y1) (fun y2 => bnd (α := Int32) (bM y2) (fun y3 => bnd (α := Int32) (bM y3) (fun y4 => bnd (α := Int32) (bM y4) (fun y5 => bnd (α := Int32) (bM y5) (fun y6 => bnd (α := Int32) (bM y6) (fun y7 => bnd (α := Int32) (bM y7) (fun y8 => y8)))))))) := rfl
theorem mixb {x y : Int32} (hx : By x) (hy : By y) : By (s_Model_mixed x y) ∧ mixC x y = s_Model_mixed x y := by
  rw [mix_eq]
  unfold mixC
  obtain ⟨a, ha, rfl⟩ := hx
  obtain ⟨b, hb, rfl⟩ := hy
  obtain ⟨c0, h0, e0⟩ := xorb ha hb
  obtain ⟨c1, h1, d1, e1⟩ := bCM2 h0
  obtain ⟨c2, h2, d2, e2⟩ := bCM2 h1
  obtain ⟨c3, h3, d3, e3⟩ := bCM2 h2
  obtain ⟨c4, h4, d4, e4⟩ := bCM2 h3
  obtain ⟨c5, h5, d5, e5⟩ := bCM2 h4
  obtain ⟨c6, h6, d6, e6⟩ := bCM2 h5
  obtain ⟨c7, h7, d7, e7⟩ := bCM2 h6
  obtain ⟨c8, h8, d8, e8⟩ := bCM2 h7
  rw [e0, bnd_eq e1.symm, bnd_eq e2.symm, bnd_eq e3.symm, bnd_eq e4.symm, bnd_eq e5.symm, bnd_eq e6.symm, bnd_eq e7.symm, bnd_eq e8.symm, bnd_eq d1.symm, bnd_eq d2.symm, bnd_eq d3.symm, bnd_eq d4.symm, bnd_eq d5.symm, bnd_eq d6.symm, bnd_eq d7.symm, bnd_eq d8.symm]
  exact ⟨⟨c8, h8, rfl⟩, rfl⟩
/-- the check of the characters d j, d (j + 1), .. -/
def crc (d : Nat → Int32) : Nat → Nat → Int32 → Int32
  | 0, _, x => x
  | n + 1, j, x => crc d n (j + 1) (s_Model_mixed x (d j))
theorem crcB {d : Nat → Int32} : ∀ (n j : Nat) (x : Int32), By x → (∀ i, j ≤ i → i < j + n → By (d i)) → By (crc d n j x) := by
  intro n
  induction n with
  | zero => intro j x hx _; exact hx
  | succ n ih => intro j x hx hd; exact ih (j + 1) _ (mixb hx (hd j (Nat.le_refl _) (by omega))).1 (fun i h1 h2 => hd i (by omega) (by omega))
theorem By0 : By 0 := ⟨0, by decide, rfl⟩
theorem chkC {d : Nat → Int32} {n k fr ln : Nat} {f : Nat → Int32} (hln : ln < 1048576) (h : ∀ j, j < ln → s_Packet_at n f k (nI (fr + j)) = d j ∧ By (d j)) : s_Packet_check n f k fr ln = crc d ln 0 0 := by
  have key : ∀ (m j : Nat) (x : Int32), j + m = ln → By x → lp_check n f k fr ln m j x = crc d m j x := by
    intro m
    induction m with
    | zero => intro j x _ _; rfl
    | succ m ih =>
      intro j x hj hx
      have hd := h j (by omega)
      have h1 : lp_check n f k fr ln (m + 1) j x = if nI ln ≤ nI j then x else bnd (α := Int32) (bC (x ^^^ s_Packet_at n f k (nI (fr + j)))) (fun y1 => bnd (α := Int32) (bC y1) (fun y2 => bnd (α := Int32) (bC y2) (fun y3 => bnd (α := Int32) (bC y3) (fun y4 => bnd (α := Int32) (bC y4) (fun y5 => bnd (α := Int32) (bC y5) (fun y6 => bnd (α := Int32) (bC y6) (fun y7 => bnd (α := Int32) (bC y7) (fun y8 => lp_check n f k fr ln m (j + 1) y8)))))))) := rfl
      have h2 : (bnd (α := Int32) (bC (x ^^^ s_Packet_at n f k (nI (fr + j)))) (fun y1 => bnd (α := Int32) (bC y1) (fun y2 => bnd (α := Int32) (bC y2) (fun y3 => bnd (α := Int32) (bC y3) (fun y4 => bnd (α := Int32) (bC y4) (fun y5 => bnd (α := Int32) (bC y5) (fun y6 => bnd (α := Int32) (bC y6) (fun y7 => bnd (α := Int32) (bC y7) (fun y8 => lp_check n f k fr ln m (j + 1) y8))))))))) = lp_check n f k fr ln m (j + 1) (mixC x (s_Packet_at n f k (nI (fr + j)))) := rfl
      rw [h1, if_neg (nI_ge (by omega) (by omega)), h2, hd.1, (mixb hx hd.2).2]
      exact ih (j + 1) _ (by omega) (mixb hx hd.2).1
  exact key ln 0 0 (by omega) By0
theorem chkM {d : Nat → Int32} {fr ln : Nat} {pk : Nat → Int32} (hln : fr + ln < 1048576) (h : ∀ j, j < ln → pk (fr + j) = d j) : s_Model_checkOf pk fr ln = crc d ln 0 0 := by
  have key : ∀ (m j : Nat) (x : Int32), j + m = ln → lp_checkOf pk fr ln m (fr + j) x = crc d m j x := by
    intro m
    induction m with
    | zero => intro j x _; rfl
    | succ m ih =>
      intro j x hj
      unfold lp_checkOf crc
      rw [if_neg (nI_ge (by omega) (by omega)), h j (by omega)]
      exact ih (j + 1) _ (by omega)
  have h1 : fr + ln - fr = ln := by omega
  unfold s_Model_checkOf
  rw [h1]
  exact key ln 0 0 (by omega)
theorem chkS {d : Nat → Int32} {fr kq : Nat} {re : Nat → Int32} (hkq : kq < 1048576) (hfr : fr ≤ kq) (h : ∀ j, j < kq - fr → re (fr + j) = d j) : s_Model_sayCheck re kq fr = (upd re kq (crc d (kq - fr) 0 0), kq + 1) := by
  have key : ∀ (m j : Nat) (x : Int32), fr + j + m = kq → lp_sayCheck re kq m (fr + j) x = (upd re kq (crc d m j x), kq + 1) := by
    intro m
    induction m with
    | zero => intro j x _; rfl
    | succ m ih =>
      intro j x hj
      unfold lp_sayCheck crc
      rw [if_neg (nI_ge (by omega) (by omega)), h j (by omega)]
      exact ih (j + 1) _ (by omega)
  exact key (kq - fr) 0 0 (by omega)
theorem crc_congr {d d2 : Nat → Int32} : ∀ (n j : Nat) (x : Int32), (∀ i, j ≤ i → i < j + n → d i = d2 i) → crc d n j x = crc d2 n j x := by
  intro n
  induction n with
  | zero => intro j x _; rfl
  | succ n ih => intro j x h; unfold crc; rw [h j (Nat.le_refl _) (by omega)]; exact ih (j + 1) _ (fun i h1 h2 => h i (by omega) (by omega))
/-- a bit of a command's byte -/
def hs (X m : Int32) : Int32 := if (X &&& m) = 0 then 0 else 1
def chg (X : Int32) : Int32 := if hs X 32 = 0 then (if hs X 16 = 0 then 0 else 1) else 0
def kno (X : Int32) : Int32 := if hs X 64 = 0 then (0) else (if hs X 128 = 0 then (if hs X 2 = 0 then (if hs X 1 = 0 then (if hs X 32 = 0 then (if hs X 8 = 0 then (0) else (if chg X = 0 then (1) else (if hs X 4 = 0 then (0) else (1)))) else (1)) else (0)) else (0)) else (0))
theorem kn_1 : ∀ x : Nat, x < 256 → s_Target_isKnown (nI x) = kno (nI x) ∧ s_Target_isWrite (nI x) = hs (nI x) 32 ∧ (nI x &&& (-65)) = (nI x &&& 191) ∧ (nI x &&& 191) = nI (nI x &&& 191).toNatClampNeg ∧ (nI x &&& 191).toNatClampNeg < 256 := by decide +kernel
theorem kn_2 : ∀ x : Nat, x < 256 → ¬ kno (nI x) = 0 → s_Target_isChange (nI x) = chg (nI x) ∧ s_Target_isRead (nI x) = (if hs (nI x) 32 = 0 then (if chg (nI x) = 0 then 1 else 0) else 0) ∧ (¬ chg (nI x) = 0 → ¬ hs (nI x) 4 = 0 ∧ hs (nI x) 32 = 0) := by decide +kernel
theorem kn_3 : ∀ n : Nat, n < 17 → (s_Target_isChangeLength (nI n) = if nI n = 0 then 0 else if 8 < nI n then 0 else if nI n - nI n / 2 * 2 = 1 then 0 else 1) := by decide +kernel
