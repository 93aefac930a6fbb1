/-! THE SQUARE AS NUMBERS: T row place. Row 0: 8 spring, 9 stalls, 10 hour, 11 z; rows 1 visits, 2 shade, 3 kind, 4 where, 5 goods, 6 coin, 7 sold, 8 held -/
def putSq (o : Nat) (T σ : Sg) : Sg := fun i => bif Nat.ble o i && Nat.ble i (o + 8) then T (i - o) else σ i
def Tq (o : Nat) (σ : Sg) : Sg := fun i => σ (o + i)
theorem putSq_in {o j : Nat} {T σ : Sg} (hj : j ≤ 8) : putSq o T σ (o + j) = T j := by
  unfold putSq
  rw [show Nat.ble o (o + j) = true from Nat.ble_eq_true_of_le (by omega), show Nat.ble (o + j) (o + 8) = true from Nat.ble_eq_true_of_le (by omega)]
  show T (o + j - o) = T j
  rw [Nat.add_sub_cancel_left]
theorem putSq_out {o i : Nat} {T σ : Sg} (h : i < o ∨ o + 8 < i) : putSq o T σ i = σ i := by
  unfold putSq
  have : (Nat.ble o i && Nat.ble i (o + 8)) = false := by
    cases hb : (Nat.ble o i && Nat.ble i (o + 8)) with
    | false => rfl
    | true =>
      obtain ⟨h1, h2⟩ := Bool.and_eq_true_iff.mp hb
      have := Nat.le_of_ble_eq_true h1
      have := Nat.le_of_ble_eq_true h2
      omega
  rw [this]
  rfl
theorem sq_cases (o i : Nat) : (∃ j, j ≤ 8 ∧ i = o + j) ∨ (i < o ∨ o + 8 < i) := by
  by_cases h : i < o ∨ o + 8 < i
  · exact Or.inr h
  · exact Or.inl ⟨i - o, by omega, by omega⟩
theorem putSq_self (o : Nat) (σ : Sg) : putSq o (Tq o σ) σ = σ := by
  funext i
  rcases sq_cases o i with ⟨j, hj, rfl⟩ | h
  · rw [putSq_in hj]; rfl
  · rw [putSq_out h]
theorem putSq_put (o : Nat) (T T' σ : Sg) : putSq o T (putSq o T' σ) = putSq o T σ := by
  funext i
  rcases sq_cases o i with ⟨j, hj, rfl⟩ | h
  · rw [putSq_in hj, putSq_in hj]
  · rw [putSq_out h, putSq_out h, putSq_out h]
/-- a row of the square is written -/
theorem putSq_upr {o j : Nat} {T σ : Sg} {f : Nat → Int32} (hj : j ≤ 8) : upr (putSq o T σ) (o + j) f = putSq o (upr T j f) σ := by
  funext i
  unfold upr
  by_cases hi : i = o + j
  · subst hi
    rw [if_pos rfl, putSq_in hj]
    exact (if_pos rfl).symm
  · rw [if_neg hi]
    rcases sq_cases o i with ⟨q, hq, rfl⟩ | h
    · rw [putSq_in hq, putSq_in hq]
      exact (if_neg (fun e => hi (by rw [e]))).symm
    · rw [putSq_out h, putSq_out h]
theorem upr_in (σ : Sg) (i : Nat) (f : Nat → Int32) : upr σ i f i = f := if_pos rfl
theorem upr_out {σ : Sg} {i j : Nat} {f : Nat → Int32} (h : j ≠ i) : upr σ i f j = σ j := if_neg h
theorem upr_upr (σ : Sg) (i : Nat) (f g : Nat → Int32) : upr (upr σ i f) i g = upr σ i g := by
  funext j
  by_cases h : j = i
  · subst h; rw [upr_in, upr_in]
  · rw [upr_out h, upr_out h, upr_out h]
theorem upr_self (σ : Sg) (i : Nat) : upr σ i (σ i) = σ := by
  funext j
  by_cases h : j = i
  · subst h; rw [upr_in]
  · rw [upr_out h]
theorem upd_same (f : Nat → Int32) (k : Nat) : upd f k (f k) = f := by
  funext j
  unfold upd
  split
  · rename_i h; rw [h]
  · rfl
/-- bit j of a set; the set of j alone -/
abbrev hb (m j : Int32) : Prop := (m >>> (j &&& 31)) &&& 1 = 1
def bit1 (j : Int32) : Int32 := 1 <<< (j &&& 31)
abbrev rm (x y : Int32) : Int32 := x - x / y * y
/-- OFFERS of a kind at a place -/
def offT (T : Sg) (kd : Int32) (p : Nat) : Int32 :=
  if kd = 1 then T 1 p + T 1 ((p + 1) % 12) else if kd = 3 then (if T 2 p = 1 then T 1 p + T 1 ((p + 1) % 12) else 0) else if kd = 5 then T 1 p / 2 else if kd = 6 then T 1 p / 2 * (if nI p = T 0 8 then 3 else 1) else T 1 p
def pl (T : Sg) (k : Nat) : Nat := (T 4 k).toNatClampNeg
def priT (kd : Int32) : Int32 := pR kd.toNatClampNeg
/-- what a stall sells -/
def selT (T : Sg) (k : Nat) : Int32 := if offT T (T 3 k) (pl T k) < T 5 k then offT T (T 3 k) (pl T k) else T 5 k
def sell1 (T : Sg) (k : Nat) : Sg := upr (upr (upr T 5 (upd (T 5) k (T 5 k - selT T k))) 7 (upd (T 7) k (T 7 k + selT T k))) 6 (upd (T 6) k (T 6 k + selT T k * priT (T 3 k)))
def sellN (T : Sg) : Nat → Sg
  | 0 => T
  | k + 1 => sell1 (sellN T k) k
def saleN (T : Sg) : Nat → Int32
  | 0 => 0
  | k + 1 => saleN T k + selT (sellN T k) k
def goT (T : Sg) (k : Nat) : Bool := if T 3 k = 2 then decide (rm (T 0 10) 2 = 0) else if T 3 k = 4 then decide (rm (T 0 10) 2 = 0) && decide (rm (T 0 10) 3 = 0) else true
/-- those that stay -/
def stN (T : Sg) : Nat → Int32
  | 0 => 0
  | k + 1 => if T 5 k = 0 ∨ goT T k = false then stN T k ||| bit1 (nI k) else stN T k
/-- the places of some -/
def plN (T : Sg) (set : Int32) : Nat → Int32
  | 0 => 0
  | k + 1 => if hb set (nI k) then plN T set k ||| bit1 (T 4 k) else plN T set k
def farG (p : Nat) (tk : Int32) : Nat → Nat → Nat
  | 0, s => s
  | f + 1, s => if hb tk (nI ((p + s) % 12)) then farG p tk f (s + 1) else s
def far (p : Nat) (tk : Int32) : Nat := farG p tk 11 1
def str1 (st tk : Int32) (U : Sg) (k : Nat) : Sg := if hb st (nI k) then U else upr U 4 (upd (U 4) k (nI ((pl U k + far (pl U k) tk) % 12)))
def strN (st tk : Int32) (T : Sg) : Nat → Sg
  | 0 => T
  | k + 1 => str1 st tk (strN st tk T k) k
def strT (n : Nat) (U : Sg) : Sg := strN (stN U n) (plN U (stN U n) n) U n
/-- an hour -/
def hrT (n : Nat) (T : Sg) : Sg := upr (strT n (sellN T n)) 0 (upd (strT n (sellN T n) 0) 10 (strT n (sellN T n) 0 10 + 1))
def hrsT (n : Nat) (T : Sg) : Nat → Sg
  | 0 => T
  | j + 1 => hrT n (hrsT n T j)
def hrsS (n : Nat) (T : Sg) : Nat → Int32
  | 0 => 0
  | j + 1 => hrsS n T j + saleN (hrsT n T j) n
/-- the stall at a place, of the first n; -1 -/
def atN (T : Sg) (p : Int32) : Nat → Int32
  | 0 => -1
  | k + 1 => if T 4 k = p then nI k else atN T p k
/-- a square that can be: n stalls, the hour h, coins for b hours -/
def VTb (n h b : Nat) (T : Sg) : Prop :=
  (n ≤ 8 ∧ h ≤ 2000 ∧ T 0 9 = nI n ∧ T 0 10 = nI h) ∧ (∀ k, k < 8 → ∃ a, a < 12 ∧ T 4 k = nI a) ∧ (∀ k, k < 8 → ∃ a, a < 7 ∧ T 3 k = nI a) ∧ (∀ k, k < 8 → ∃ g, g ≤ 99 ∧ T 5 k = nI g) ∧ (∀ k, k < 8 → ∃ c, c ≤ 495 * b ∧ T 6 k = nI c) ∧
  (∀ p, p < 12 → ∃ v, v ≤ 20 ∧ T 1 p = nI v) ∧ (∃ a, a < 12 ∧ T 0 8 = nI a) ∧ (∀ i j, i < n → j < n → T 4 i = T 4 j → i = j) ∧ (∀ q, q < 10 → T 8 q = -1 ∨ ∃ a, a < n ∧ T 8 q = nI a)
abbrev VT (n h : Nat) (T : Sg) : Prop := VTb n h h T
theorem VTpl {n h b : Nat} {T : Sg} (v : VTb n h b T) {k : Nat} (hk : k < 8) : T 4 k = nI (pl T k) ∧ pl T k < 12 := by
  obtain ⟨a, ha, e⟩ := v.2.1 k hk
  have : pl T k = a := by
    unfold pl
    rw [e]
    exact nI_clamp (by omega)
  rw [this]
  exact ⟨e, ha⟩
theorem nI_m12 {a : Nat} (h : a < 2 ^ 31) : rm (nI a) 12 = nI (a % 12) := pk_rem (d := 12) h (by decide) (by decide)
theorem nI_half {a : Nat} (h : a < 2 ^ 31) : nI a / 2 = nI (a / 2) := pk_div (d := 2) h (by decide) (by decide)
/-- what is offered is a small number -/
theorem offT_n {n h b : Nat} {T : Sg} (v : VTb n h b T) (kd : Int32) {p : Nat} (hp : p < 12) : ∃ a, a ≤ 40 ∧ offT T kd p = nI a := by
  obtain ⟨x, hx, ex⟩ := v.2.2.2.2.2.1 p hp
  obtain ⟨y, hy, ey⟩ := v.2.2.2.2.2.1 ((p + 1) % 12) (Nat.mod_lt _ (by decide))
  unfold offT
  rw [ex, ey]
  split
  · exact ⟨x + y, by omega, nI_add x y⟩
  · split
    · split
      · exact ⟨x + y, by omega, nI_add x y⟩
      · exact ⟨0, by omega, rfl⟩
    · split
      · exact ⟨x / 2, by omega, nI_half (by omega)⟩
      · split
        · rw [nI_half (by omega)]
          split
          · exact ⟨x / 2 * 3, by omega, pk_mul (x / 2) 3⟩
          · exact ⟨x / 2 * 1, by omega, pk_mul (x / 2) 1⟩
        · exact ⟨x, by omega, rfl⟩
theorem selT_n {n h b : Nat} {T : Sg} (v : VTb n h b T) {k : Nat} (hk : k < 8) : ∃ g x, g ≤ 99 ∧ x ≤ g ∧ T 5 k = nI g ∧ selT T k = nI x := by
  obtain ⟨g, hg, eg⟩ := v.2.2.2.1 k hk
  obtain ⟨o, ho, eo⟩ := offT_n v (T 3 k) (VTpl v hk).2
  unfold selT
  rw [eg, eo]
  split
  · rename_i hlt
    have := (nI_ltI (by omega) (by omega)).mp hlt
    exact ⟨g, o, hg, by omega, rfl, rfl⟩
  · exact ⟨g, g, hg, Nat.le_refl _, rfl, rfl⟩
theorem priT_n {a : Nat} (h : a < 7) : ∃ q, q ≤ 5 ∧ priT (nI a) = nI q := by
  unfold priT
  rw [nI_clamp (by omega)]
  have : a = 0 ∨ a = 1 ∨ a = 2 ∨ a = 3 ∨ a = 4 ∨ a = 5 ∨ a = 6 := by omega
  rcases this with rfl | rfl | rfl | rfl | rfl | rfl | rfl
  · exact ⟨2, by decide, rfl⟩
  · exact ⟨2, by decide, rfl⟩
  · exact ⟨1, by decide, rfl⟩
  · exact ⟨3, by decide, rfl⟩
  · exact ⟨1, by decide, rfl⟩
  · exact ⟨2, by decide, rfl⟩
  · exact ⟨5, by decide, rfl⟩
/-! what stays at the selling -/
theorem sellN_row {T : Sg} {j : Nat} (h5 : j ≠ 5) (h6 : j ≠ 6) (h7 : j ≠ 7) : ∀ k, sellN T k j = T j
  | 0 => rfl
  | k + 1 => by
    show sell1 (sellN T k) k j = T j
    unfold sell1
    rw [upr_out h6, upr_out h7, upr_out h5, sellN_row h5 h6 h7 k]
theorem sellN_ge {T : Sg} {j i : Nat} : ∀ k, k ≤ i → sellN T k j i = T j i
  | 0, _ => rfl
  | k + 1, hk => by
    have ih := sellN_ge (T := T) (j := j) (i := i) k (by omega)
    show sell1 (sellN T k) k j i = T j i
    unfold sell1
    have hik : i ≠ k := by omega
    by_cases h6 : j = 6
    · subst h6; rw [upr_in]; unfold upd; rw [if_neg hik]; exact ih
    · rw [upr_out h6]
      by_cases h7 : j = 7
      · subst h7; rw [upr_in]; unfold upd; rw [if_neg hik]; exact ih
      · rw [upr_out h7]
        by_cases h5 : j = 5
        · subst h5; rw [upr_in]; unfold upd; rw [if_neg hik]; exact ih
        · rw [upr_out h5]; exact ih
theorem offT_cong {T U : Sg} (h0 : T 0 = U 0) (h1 : T 1 = U 1) (h2 : T 2 = U 2) (kd : Int32) (p : Nat) : offT T kd p = offT U kd p := by
  unfold offT; rw [h0, h1, h2]
theorem selT_at {T : Sg} {k i : Nat} (h : k ≤ i) : selT (sellN T k) i = selT T i := by
  unfold selT pl
  rw [offT_cong (U := T) (sellN_row (by decide) (by decide) (by decide) k) (sellN_row (by decide) (by decide) (by decide) k) (sellN_row (by decide) (by decide) (by decide) k), sellN_ge k h, sellN_ge k h, sellN_ge k h]
theorem sell1_VT {n h : Nat} {T : Sg} {k : Nat} (hk : k < 8) (c0 : ∃ c, c ≤ 495 * h ∧ T 6 k = nI c) (v : VT n h T) : (∃ g x q c, g ≤ 99 ∧ x ≤ g ∧ q ≤ 5 ∧ c ≤ 495 * h ∧ T 5 k = nI g ∧ selT T k = nI x ∧ priT (T 3 k) = nI q ∧ T 6 k = nI c) := by
  obtain ⟨g, x, hg, hx, eg, ex⟩ := selT_n v hk
  obtain ⟨a, ha, ea⟩ := v.2.2.1 k hk
  obtain ⟨q, hq, eq⟩ := priT_n ha
  obtain ⟨c, hc, ec⟩ := c0
  exact ⟨g, x, q, c, hg, hx, hq, hc, eg, ex, by rw [ea]; exact eq, ec⟩
