/-! RANGES, FINDINGS: both systems -/
def zb (b : Bool) : Int32 := bif b then 1 else 0
theorem zb_bz (b : Bool) : bz (zb b) := by cases b <;> first | exact Or.inl rfl | exact Or.inr rfl
def bI (x : Int32) (lo hi : Int) : Bool := decide (lo ≤ x.toInt ∧ x.toInt ≤ hi)
theorem bI_t {x : Int32} {lo hi : Int} : bI x lo hi = true ↔ lo ≤ x.toInt ∧ x.toInt ≤ hi := decide_eq_true_iff
theorem bI_f {x : Int32} {lo hi : Int} : bI x lo hi = false ↔ ¬ (lo ≤ x.toInt ∧ x.toInt ≤ hi) := decide_eq_false_iff_not
theorem i_lt (x y : Int32) : x < y ↔ x.toInt < y.toInt := Int32.lt_iff_toInt_lt
theorem i_le (x y : Int32) : x ≤ y ↔ x.toInt ≤ y.toInt := Int32.le_iff_toInt_le
theorem nI_of_toInt {x : Int32} {a : Nat} (ha : a < 2 ^ 31) (h : x.toInt = a) : x = nI a := Int32.toInt_inj.mp (by rw [h, nI_toInt ha])
theorem bI_n {x : Int32} {lo : Int} {hi : Int} (h : bI x lo hi = true) (h0 : 0 ≤ lo) (h1 : hi < 2147483648) : ∃ a : Nat, lo ≤ a ∧ (a : Int) ≤ hi ∧ x = nI a := by
  obtain ⟨h2, h3⟩ := bI_t.mp h
  exact ⟨x.toInt.toNat, by omega, by omega, nI_of_toInt (by omega) (by omega)⟩
theorem nI_bI {a : Nat} {lo hi : Int} (ha : a < 2 ^ 31) : bI (nI a) lo hi = decide (lo ≤ a ∧ (a : Int) ≤ hi) := by
  unfold bI
  rw [nI_toInt ha]
def fd (w : Nat) : Int32 := -1000001 - nI w
abbrev tel (σ : Sg) (w : Nat) : Sg := up2 σ 44 w (σ 44 w + 1)
abbrev telM (σ : Sg) (w : Nat) : Sg := up2 σ 49 w (σ 49 w + 1)
theorem ct_fd {w : Nat} (hw : w < 7) {wv : Int32} (e : wv = nI w) (σ : Sg) : Ct mX4_finding [.ref 0, .int wv] σ (Ex (some (.int (fd w))) (tel σ w)) := by
  subst e
  exact ct_finding w hw σ
theorem sub_sub {x a : Int32} : x - (x - a) = a := by
  refine Int32.toBitVec_inj.mp ?_
  show x.toBitVec - (x.toBitVec - a.toBitVec) = a.toBitVec
  bv_omega
theorem ct_finds {w : Nat} (hw : w < 7) {fv : Int32} (e : fv = fd w) (σ : Sg) : Ct mX5_finds [.ref 45, .int fv] σ (Ex (some (.int (fd w))) (telM σ w)) := by
  subst e
  refine Ct.of (by decide +kernel) zX5_finds (Nat.le_of_ble_eq_true rfl) (by decide) (fun X go => ?_)
  refine go.1 [] 20 _ _ _ _ ?_
  refine Exists.intro w (And.intro ⟨show (-1000001 : Int32) - fd w = nI w from sub_sub, hw, by omega⟩ ?_)
  refine Exists.intro w (And.intro ⟨show (-1000001 : Int32) - fd w = nI w from sub_sub, hw, by omega⟩ ?_)
  exact And.intro rfl rfl
theorem lcmp_lt (x y : Int64) : lg_cmp x y < 0 ↔ x < y := by
  have h := lg_cmp_ge x y
  rw [← Int32.not_le, ← Int64.not_le]
  exact not_congr h
theorem lcmp_gt (x y : Int64) : 0 < lg_cmp x y ↔ y < x := by
  unfold lg_cmp
  by_cases h : x > y
  · rw [if_pos h]
    exact ⟨fun _ => h, fun _ => by decide⟩
  · rw [if_neg h]
    refine ⟨fun q => ?_, fun q => absurd q h⟩
    split at q
    · exact absurd q (by decide)
    · exact absurd q (by decide)
theorem ct_in (v lo hi : Int64) (σ : Sg) : Ct mX5_in [.long v, .long lo, .long hi] σ (Ex (some (.int (zb (decide (lo ≤ v ∧ v ≤ hi))))) σ) := by
  refine Ct.of (by decide +kernel) zX5_in (Nat.le_of_ble_eq_true rfl) (by decide) (fun X go => ?_)
  refine go.1 [] 20 _ _ _ _ ?_
  refine And.intro (fun (h : lg_cmp v lo < 0) => ?_) (fun (h : ¬ lg_cmp v lo < 0) => ?_)
  · have h1 := (lcmp_lt v lo).mp h
    rw [show decide (lo ≤ v ∧ v ≤ hi) = false from decide_eq_false (fun q => Int64.not_le.mpr h1 q.1)]
    exact And.intro (Or.inl rfl) (And.intro rfl rfl)
  · have h1 := Int64.not_lt.mp (fun q => h ((lcmp_lt v lo).mpr q))
    refine And.intro (fun (h : 0 < lg_cmp v hi) => ?_) (fun (h : ¬ 0 < lg_cmp v hi) => ?_)
    · have h2 := (lcmp_gt v hi).mp h
      rw [show decide (lo ≤ v ∧ v ≤ hi) = false from decide_eq_false (fun q => Int64.not_le.mpr h2 q.2)]
      exact And.intro (Or.inl rfl) (And.intro rfl rfl)
    · have h2 := Int64.not_lt.mp (fun q => h ((lcmp_gt v hi).mpr q))
      rw [show decide (lo ≤ v ∧ v ≤ hi) = true from decide_eq_true ⟨h1, h2⟩]
      exact And.intro (Or.inr rfl) (And.intro rfl rfl)
theorem in_bI (x a b : Int32) : decide (a.toInt64 ≤ x.toInt64 ∧ x.toInt64 ≤ b.toInt64) = bI x a.toInt b.toInt := by
  unfold bI
  congr 1
  rw [Int64.le_iff_toInt_le, Int64.le_iff_toInt_le, Int32.toInt_toInt64, Int32.toInt_toInt64, Int32.toInt_toInt64]
/-- in of two small numbers -/
theorem ct_inI (x a b : Int32) {la lb : Int64} (ea : la = a.toInt64) (eb : lb = b.toInt64) (σ : Sg) : Ct mX5_in [.long x.toInt64, .long la, .long lb] σ (Ex (some (.int (zb (bI x a.toInt b.toInt)))) σ) := by
  subst ea; subst eb
  have c := ct_in x.toInt64 a.toInt64 b.toInt64 σ
  rw [in_bI] at c
  exact c
theorem ct_isPlaceM (p : Int32) (σ : Sg) : Ct mX5_isPlace [.int p] σ (Ex (some (.int (zb (bI p 0 11)))) σ) := by
  refine Ct.of (by decide +kernel) zX5_isPlace (Nat.le_of_ble_eq_true rfl) (by decide) (fun X go => ?_)
  refine go.1 [] 20 _ _ _ _ ?_
  refine cl (ct_inI p 0 11 (by decide) (by decide) σ) ?_
  exact And.intro (zb_bz _) (And.intro rfl rfl)
theorem ct_isSpan (p : Int32) (σ : Sg) : Ct mX5_isSpan [.int p] σ (Ex (some (.int (zb (bI p 0 96)))) σ) := by
  refine Ct.of (by decide +kernel) zX5_isSpan (Nat.le_of_ble_eq_true rfl) (by decide) (fun X go => ?_)
  refine go.1 [] 20 _ _ _ _ ?_
  refine cl (ct_inI p 0 96 (by decide) (by decide) σ) ?_
  exact And.intro (zb_bz _) (And.intro rfl rfl)
theorem ct_isDays (p : Int32) (σ : Sg) : Ct mX5_isDays [.int p] σ (Ex (some (.int (zb (bI p 1 48)))) σ) := by
  refine Ct.of (by decide +kernel) zX5_isDays (Nat.le_of_ble_eq_true rfl) (by decide) (fun X go => ?_)
  refine go.1 [] 20 _ _ _ _ ?_
  refine cl (ct_inI p 1 48 (by decide) (by decide) σ) ?_
  exact And.intro (zb_bz _) (And.intro rfl rfl)
theorem ct_isOne (p : Int32) (σ : Sg) : Ct mX5_isOne [.int p] σ (Ex (some (.int (zb (bI p 0 3)))) σ) := by
  refine Ct.of (by decide +kernel) zX5_isOne (Nat.le_of_ble_eq_true rfl) (by decide) (fun X go => ?_)
  refine go.1 [] 20 _ _ _ _ ?_
  refine cl (ct_inI p 0 3 (by decide) (by decide) σ) ?_
  exact And.intro (zb_bz _) (And.intro rfl rfl)
theorem pred_toInt {n : Nat} (hn : n ≤ 8) : (nI n - 1).toInt = (n : Int) - 1 := by
  have := pk_sub_toInt (a := n) (b := 1) (by omega) (by decide)
  exact this
theorem ct_isStallM {n : Nat} (hn8 : n ≤ 8) {σ : Sg} (hn : σ 46 1 = nI n) (k : Int32) : Ct mX5_isStall [.ref 45, .int k] σ (Ex (some (.int (zb (bI k 0 ((n : Int) - 1))))) σ) := by
  refine Ct.of (by decide +kernel) zX5_isStall (Nat.le_of_ble_eq_true rfl) (by decide) (fun X go => ?_)
  refine go.1 [] 20 _ _ _ _ ?_
  refine Exists.intro 1 (And.intro ⟨rfl, by decide, by decide⟩ ?_)
  have c := ct_inI k 0 (σ 46 1 - 1) (la := 0) (lb := (σ 46 1 - 1).toInt64) (by decide) rfl σ
  rw [show (σ 46 1 - 1).toInt = (n : Int) - 1 by rw [hn]; exact pred_toInt hn8] at c
  refine cl c ?_
  exact And.intro (zb_bz _) (And.intro rfl rfl)
theorem ct_isTooLate {h m : Nat} {σ : Sg} (hh : σ 46 0 = nI h) (hm : h + m < 1000000) {mv : Int32} (e : mv = nI m) : Ct mX5_isTooLate [.ref 45, .int mv] σ (Ex (some (.int (zb (decide (999 < h + m))))) σ) := by
  subst e
  refine Ct.of (by decide +kernel) zX5_isTooLate (Nat.le_of_ble_eq_true rfl) (by decide) (fun X go => ?_)
  refine go.1 [] 20 _ _ _ _ ?_
  refine Exists.intro 0 (And.intro ⟨rfl, by decide, by decide⟩ ?_)
  refine And.intro (fun (q : σ 46 0 + nI m ≤ nI 999) => ?_) (fun (q : ¬ σ 46 0 + nI m ≤ nI 999) => ?_)
  · rw [hh, nI_add, nI_leI (by omega) (by decide)] at q
    rw [show decide (999 < h + m) = false from decide_eq_false (by omega)]
    exact And.intro (Or.inl rfl) (And.intro rfl rfl)
  · rw [hh, nI_add, nI_leI (by omega) (by decide)] at q
    rw [show decide (999 < h + m) = true from decide_eq_true (by omega)]
    exact And.intro (Or.inr rfl) (And.intro rfl rfl)
/-! the class -/
theorem ctZ_isPlace (p : Int32) (σ : Sg) : Ct mX4_isPlace [.int p] σ (Ex (some (.int (zb (bI p 0 11)))) σ) := by
  refine Ct.of (by decide +kernel) zX4_isPlace (Nat.le_of_ble_eq_true rfl) (by decide) (fun X go => ?_)
  refine go.1 [] 20 _ _ _ _ ?_
  refine And.intro (fun (h : p < 0) => ?_) (fun (h : ¬ p < 0) => ?_)
  · rw [show bI p 0 11 = false from bI_f.mpr (fun q => by have := (i_lt p 0).mp h; rw [show (0 : Int32).toInt = 0 from rfl] at this; omega)]
    exact And.intro (Or.inl rfl) (And.intro rfl rfl)
  · have h : ¬ p.toInt < 0 := fun q => h ((i_lt p 0).mpr q)
    refine And.intro (fun (g : 12 ≤ p) => ?_) (fun (g : ¬ 12 ≤ p) => ?_)
    · rw [show bI p 0 11 = false from bI_f.mpr (fun q => by have := (i_le 12 p).mp g; rw [show (12 : Int32).toInt = 12 from rfl] at this; omega)]
      exact And.intro (Or.inl rfl) (And.intro rfl rfl)
    · have g : ¬ (12 : Int) ≤ p.toInt := fun q => g ((i_le 12 p).mpr q)
      rw [show bI p 0 11 = true from bI_t.mpr ⟨by omega, by omega⟩]
      exact And.intro (Or.inr rfl) (And.intro rfl rfl)
theorem ctZ_isKind (p : Int32) (σ : Sg) : Ct mX4_isKind [.int p] σ (Ex (some (.int (zb (bI p 0 6)))) σ) := by
  refine Ct.of (by decide +kernel) zX4_isKind (Nat.le_of_ble_eq_true rfl) (by decide) (fun X go => ?_)
  refine go.1 [] 20 _ _ _ _ ?_
  refine And.intro (fun (h : p < 0) => ?_) (fun (h : ¬ p < 0) => ?_)
  · rw [show bI p 0 6 = false from bI_f.mpr (fun q => by have := (i_lt p 0).mp h; rw [show (0 : Int32).toInt = 0 from rfl] at this; omega)]
    exact And.intro (Or.inl rfl) (And.intro rfl rfl)
  · have h : ¬ p.toInt < 0 := fun q => h ((i_lt p 0).mpr q)
    refine And.intro (fun (g : 7 ≤ p) => ?_) (fun (g : ¬ 7 ≤ p) => ?_)
    · rw [show bI p 0 6 = false from bI_f.mpr (fun q => by have := (i_le 7 p).mp g; rw [show (7 : Int32).toInt = 7 from rfl] at this; omega)]
      exact And.intro (Or.inl rfl) (And.intro rfl rfl)
    · have g : ¬ (7 : Int) ≤ p.toInt := fun q => g ((i_le 7 p).mpr q)
      rw [show bI p 0 6 = true from bI_t.mpr ⟨by omega, by omega⟩]
      exact And.intro (Or.inr rfl) (And.intro rfl rfl)
theorem ctZ_isSpot (p : Int32) (σ : Sg) : Ct mX4_isSpot [.int p] σ (Ex (some (.int (zb (bI p 0 9)))) σ) := by
  refine Ct.of (by decide +kernel) zX4_isSpot (Nat.le_of_ble_eq_true rfl) (by decide) (fun X go => ?_)
  refine go.1 [] 20 _ _ _ _ ?_
  refine And.intro (fun (h : p < 0) => ?_) (fun (h : ¬ p < 0) => ?_)
  · rw [show bI p 0 9 = false from bI_f.mpr (fun q => by have := (i_lt p 0).mp h; rw [show (0 : Int32).toInt = 0 from rfl] at this; omega)]
    exact And.intro (Or.inl rfl) (And.intro rfl rfl)
  · have h : ¬ p.toInt < 0 := fun q => h ((i_lt p 0).mpr q)
    refine And.intro (fun (g : 10 ≤ p) => ?_) (fun (g : ¬ 10 ≤ p) => ?_)
    · rw [show bI p 0 9 = false from bI_f.mpr (fun q => by have := (i_le 10 p).mp g; rw [show (10 : Int32).toInt = 10 from rfl] at this; omega)]
      exact And.intro (Or.inl rfl) (And.intro rfl rfl)
    · have g : ¬ (10 : Int) ≤ p.toInt := fun q => g ((i_le 10 p).mpr q)
      rw [show bI p 0 9 = true from bI_t.mpr ⟨by omega, by omega⟩]
      exact And.intro (Or.inr rfl) (And.intro rfl rfl)
theorem ctZ_isSheet (p : Int32) (σ : Sg) : Ct mX4_isSheet [.int p] σ (Ex (some (.int (zb (bI p 0 3)))) σ) := by
  refine Ct.of (by decide +kernel) zX4_isSheet (Nat.le_of_ble_eq_true rfl) (by decide) (fun X go => ?_)
  refine go.1 [] 20 _ _ _ _ ?_
  refine And.intro (fun (h : p < 0) => ?_) (fun (h : ¬ p < 0) => ?_)
  · rw [show bI p 0 3 = false from bI_f.mpr (fun q => by have := (i_lt p 0).mp h; rw [show (0 : Int32).toInt = 0 from rfl] at this; omega)]
    exact And.intro (Or.inl rfl) (And.intro rfl rfl)
  · have h : ¬ p.toInt < 0 := fun q => h ((i_lt p 0).mpr q)
    refine And.intro (fun (g : 4 ≤ p) => ?_) (fun (g : ¬ 4 ≤ p) => ?_)
    · rw [show bI p 0 3 = false from bI_f.mpr (fun q => by have := (i_le 4 p).mp g; rw [show (4 : Int32).toInt = 4 from rfl] at this; omega)]
      exact And.intro (Or.inl rfl) (And.intro rfl rfl)
    · have g : ¬ (4 : Int) ≤ p.toInt := fun q => g ((i_le 4 p).mpr q)
      rw [show bI p 0 3 = true from bI_t.mpr ⟨by omega, by omega⟩]
      exact And.intro (Or.inr rfl) (And.intro rfl rfl)
theorem ctZ_isStall {n : Nat} (hn8 : n ≤ 8) {σ : Sg} (hn : σ 1 9 = nI n) (p : Int32) : Ct mX4_isStall [.ref 0, .int p] σ (Ex (some (.int (zb (bI p 0 ((n : Int) - 1))))) σ) := by
  have hnt : (σ 1 9).toInt = n := by rw [hn]; exact nI_toInt (by omega)
  refine Ct.of (by decide +kernel) zX4_isStall (Nat.le_of_ble_eq_true rfl) (by decide) (fun X go => ?_)
  refine go.1 [] 20 _ _ _ _ ?_
  refine And.intro (fun (h : p < 0) => ?_) (fun (h : ¬ p < 0) => ?_)
  · rw [show bI p 0 ((n : Int) - 1) = false from bI_f.mpr (fun q => by have := (i_lt p 0).mp h; rw [show (0 : Int32).toInt = 0 from rfl] at this; omega)]
    exact And.intro (Or.inl rfl) (And.intro rfl rfl)
  · have h : ¬ p.toInt < 0 := fun q => h ((i_lt p 0).mpr q)
    refine And.intro (fun (g : σ 1 9 ≤ p) => ?_) (fun (g : ¬ σ 1 9 ≤ p) => ?_)
    · rw [show bI p 0 ((n : Int) - 1) = false from bI_f.mpr (fun q => by have := (i_le _ p).mp g; rw [hnt] at this; omega)]
      exact And.intro (Or.inl rfl) (And.intro rfl rfl)
    · have g : ¬ (n : Int) ≤ p.toInt := fun q => g ((i_le _ p).mpr (by rw [hnt]; exact q))
      rw [show bI p 0 ((n : Int) - 1) = true from bI_t.mpr ⟨by omega, by omega⟩]
      exact And.intro (Or.inr rfl) (And.intro rfl rfl)
/-- 0, or the finding of a look ahead, with what is told -/
def aF (k : Bool) (nv : Int32) (lo hi : Int) (h : Nat) : Option Nat := if k && bI nv lo hi then (if 999 < (h : Int) + nv.toInt then some 4 else none) else some 0
def fv0 : Option Nat → Int32
  | none => 0
  | some w => fd w
def telO (σ : Sg) : Option Nat → Sg
  | none => σ
  | some w => tel σ w
theorem ctZ_ahead {h a b : Nat} (hh9 : h ≤ 999) (ha : a ≤ b) (hb9 : b ≤ 999) {σ : Sg} (hh : σ 1 10 = nI h) (k : Bool) {kv nv lo hi : Int32} (ek : kv = zb k) (el : lo = nI a) (eh : hi = nI b) : Ct mX4_aheadFinding [.ref 0, .int kv, .int nv, .int lo, .int hi] σ (Ex (some (.int (fv0 (aF k nv a b h)))) (telO σ (aF k nv a b h))) := by
  subst ek; subst el; subst eh
  have ta : (nI a).toInt = a := nI_toInt (by omega)
  have tb : (nI b).toInt = b := nI_toInt (by omega)
  refine Ct.of (by decide +kernel) zX4_aheadFinding (Nat.le_of_ble_eq_true rfl) (by decide) (fun X go => ?_)
  refine go.1 [] 40 _ _ _ _ ?_
  have bad : (k && bI nv a b) = false → aF k nv a b h = some 0 := fun q => by unfold aF; rw [q]; rfl
  cases hk : k with
  | false =>
    have := bad (by rw [hk]; rfl)
    rw [hk] at this
    rw [this]
    refine br_t (by decide) ?_
    refine cl (ct_fd (w := 0) (by decide) rfl σ) ?_
    exact And.intro rfl rfl
  | true =>
    rw [hk] at bad
    refine br_f (by decide) ?_
    refine And.intro (fun (q : nv < nI a) => ?_) (fun (q : ¬ nv < nI a) => ?_)
    · rw [i_lt, ta] at q
      rw [bad (bI_f.mpr (by omega))]
      refine cl (ct_fd (w := 0) (by decide) rfl σ) ?_
      exact And.intro rfl rfl
    · rw [i_lt, ta] at q
      refine And.intro (fun (g : nv ≤ nI b) => ?_) (fun (g : ¬ nv ≤ nI b) => ?_)
      · rw [i_le, tb] at g
        have hbi : bI nv a b = true := bI_t.mpr (by omega)
        obtain ⟨m, m1, m2, rfl⟩ := bI_n hbi (by omega) (by omega)
        have tm : (nI m).toInt = m := nI_toInt (by omega)
        have haf : aF true (nI m) a b h = if 999 < (h : Int) + (nI m).toInt then some 4 else none := by unfold aF; rw [hbi]; rfl
        refine And.intro (fun (w : σ 1 10 + nI m ≤ nI 999) => ?_) (fun (w : ¬ σ 1 10 + nI m ≤ nI 999) => ?_)
        · rw [hh, nI_add, nI_leI (by omega) (by decide)] at w
          rw [haf, if_neg (by omega)]
          exact And.intro rfl rfl
        · rw [hh, nI_add, nI_leI (by omega) (by decide)] at w
          rw [haf, if_pos (by omega)]
          refine cl (ct_fd (w := 4) (by decide) rfl σ) ?_
          exact And.intro rfl rfl
      · rw [i_le, tb] at g
        rw [bad (bI_f.mpr (by omega))]
        refine cl (ct_fd (w := 0) (by decide) rfl σ) ?_
        exact And.intro rfl rfl
