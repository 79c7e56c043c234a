/-! version 0, level by level -/
/-- the items of a level put together by fours -/
def mkL (l : Int) (c : Int) (ent : Int → Int) : Nat → AS → AS
  | 0, A => A
  | n + 1, A => addN (mkL l c ent n A) l (imin 4 (c - 4 * n)) (fun j => ent (4 * n + j))
theorem mkL_N (l c : Int) (ent : Int → Int) (A : AS) : ∀ n : Nat, aN (mkL l c ent n A) = aN A + n
  | 0 => by simp [mkL]
  | n + 1 => by rw [mkL, addN_N, mkL_N l c ent A n]; omega
theorem mkL_same (l c : Int) (ent : Int → Int) (A : AS) : ∀ n : Nat, aV (mkL l c ent n A) = aV A ∧ vf (mkL l c ent n A) = vf A ∧ ev (mkL l c ent n A) = ev A
  | 0 => ⟨rfl, rfl, rfl⟩
  | n + 1 => mkL_same l c ent A n
theorem mkL_ext (l c : Int) (ent : Int → Int) (A : AS) : ∀ n : Nat, ext A (mkL l c ent n A)
  | 0 => ext_refl A
  | n + 1 => ext_trans (mkL_ext l c ent A n) (addN_ext _ _ _ _)
theorem mkL_co (l c : Int) (ent : Int → Int) (A : AS) (h : ∀ m, m < aN A → coA A m = 0) : ∀ (n : Nat) (m : Int), m < aN A + n → coA (mkL l c ent n A) m = 0
  | 0, m, hm => h m (by simpa using hm)
  | n + 1, m, hm => by
    by_cases hx : m = aN (mkL l c ent n A)
    · rw [hx]; exact addN_co _ _ _ _
    · rw [show coA (mkL l c ent (n + 1) A) m = coA (mkL l c ent n A) m from addN_old hx 2]
      rw [mkL_N] at hx
      exact mkL_co l c ent A h n m (by omega)
/-- the items of a level: trees of level l, that hold s values -/
def LV (A : AS) (l : Nat) (ent : Int → Int) (c s : Int) (vals : Int → Int) : Prop :=
  gN A ∧ 0 ≤ aN A ∧ (1 ≤ c ∧ (c - 1) * pw l < s ∧ s ≤ c * pw l) ∧ (∀ k, 0 ≤ k → k < c → okB A (aN A) l (ent k) ∧ ctA A l (ent k) = imin (pw l) (s - k * pw l) ∧ ∀ j, 0 ≤ j → j < ctA A l (ent k) → gtA A l (ent k) j = vals (k * pw l + j)) ∧ ∀ m, sm (fun k => muA A l (ent k) m) c.toNat 0 ≤ 1
theorem lv_ar {l : Nat} (hl : l < 3) {c s n f : Int} (hn : 0 ≤ n) (h4 : 4 * n < c) (h1 : (c - 1) * pw l < s) (h2 : s ≤ c * pw l) (hf : f = imin 4 (c - 4 * n)) :
    1 ≤ f ∧ f ≤ 4 ∧ 4 * n + f ≤ c ∧ (f < 4 → 4 * n + f = c) ∧ (f - 1) * pw l + imin (pw l) (s - (4 * n + (f - 1)) * pw l) = imin (pw (l + 1)) (s - n * pw (l + 1)) ∧ ∀ j, 0 ≤ j → j < f - 1 → imin (pw l) (s - (4 * n + j) * pw l) = pw l := by
  have hfr : 1 ≤ f ∧ f ≤ 4 ∧ 4 * n + f ≤ c ∧ (f < 4 → 4 * n + f = c) := by
    have := imin_le 4 (c - 4 * n)
    omega
  refine ⟨hfr.1, hfr.2.1, hfr.2.2.1, hfr.2.2.2, ?_, fun j j0 j1 => ?_⟩
  · obtain ⟨a1, a2, a3, a4⟩ := hfr
    clear hf
    have m1 := imin_le (pw l) (s - (4 * n + (f - 1)) * pw l)
    have m2 := imin_le (pw (l + 1)) (s - n * pw (l + 1))
    generalize imin (pw l) (s - (4 * n + (f - 1)) * pw l) = x at m1 ⊢
    generalize imin (pw (l + 1)) (s - n * pw (l + 1)) = y at m2 ⊢
    rcases l_cases hl with rfl | rfl | rfl <;> simp only [pw] at * <;> omega
  · obtain ⟨a1, a2, a3, a4⟩ := hfr
    clear hf
    have m1 := imin_le (pw l) (s - (4 * n + j) * pw l)
    generalize imin (pw l) (s - (4 * n + j) * pw l) = x at m1 ⊢
    rcases l_cases hl with rfl | rfl | rfl <;> simp only [pw] at * <;> omega
theorem LV_step {A : AS} {l : Nat} {ent : Int → Int} {c s : Int} {vals : Int → Int} (hl : l < 3) (h : LV A l ent c s vals) : ∀ n : Nat, 4 * ((n : Int) - 1) < c →
    gN (mkL ((l : Int) + 1) c ent n A) ∧ (∀ k, 0 ≤ k → k < (n : Int) → okB (mkL ((l : Int) + 1) c ent n A) (aN A + n) (l + 1) (aN A + k) ∧ ctA (mkL ((l : Int) + 1) c ent n A) (l + 1) (aN A + k) = imin (pw (l + 1)) (s - k * pw (l + 1)) ∧ ∀ j, 0 ≤ j → j < ctA (mkL ((l : Int) + 1) c ent n A) (l + 1) (aN A + k) → gtA (mkL ((l : Int) + 1) c ent n A) (l + 1) (aN A + k) j = vals (k * pw (l + 1) + j)) ∧
      ∀ m, sm (fun k => muA (mkL ((l : Int) + 1) c ent n A) (l + 1) (aN A + k) m) n 0 = sm (fun k => ind (aN A + k = m)) n 0 + sm (fun k => muA A l (ent k) m) (imin (4 * n) c).toNat 0
  | 0, _ => by
    refine ⟨h.1, fun k k0 k1 => by omega, fun m => ?_⟩
    have e : (imin (4 * ((0 : Nat) : Int)) c).toNat = 0 := by
      have := imin_le (4 * ((0 : Nat) : Int)) c
      omega
    rw [e]
    rfl
  | n + 1, hn => by
    obtain ⟨h1, h0, ⟨hc1, hcs1, hcs2⟩, h3, h4⟩ := h
    have hn' : 4 * (n : Int) < c := by omega
    obtain ⟨i1, i2, i3⟩ := LV_step hl ⟨h1, h0, ⟨hc1, hcs1, hcs2⟩, h3, h4⟩ n (by omega)
    have hN := mkL_N ((l : Int) + 1) c ent A n
    have hext := mkL_ext ((l : Int) + 1) c ent A n
    rw [mkL]
    generalize hf : imin 4 (c - 4 * (n : Int)) = f
    obtain ⟨f1, f2, f3, f4, f5, f6⟩ := lv_ar hl (n := (n : Int)) (by omega) hn' hcs1 hcs2 hf.symm
    generalize mkL ((l : Int) + 1) c ent n A = B at i1 i2 i3 hN hext ⊢
    have hent : ∀ j, 0 ≤ j → j < f → okB B (aN B) l (ent (4 * n + j)) ∧ ctA B l (ent (4 * n + j)) = imin (pw l) (s - (4 * n + j) * pw l) := fun j j0 j1 => by
      obtain ⟨q1, q2, q3⟩ := h3 (4 * n + j) (by omega) (by omega)
      exact ⟨okB_mono hext.1 (ext_ok hext (Int.le_refl _) q1), by rw [ext_ct h1 hext l (Int.le_refl _) q1]; exact q2⟩
    have hok : ∀ j, 0 ≤ j → j < f → okB B (aN B) l (ent (4 * n + j)) := fun j j0 j1 => (hent j j0 j1).1
    have hgN : gN (addN B ((l : Int) + 1) f (fun j => ent (4 * n + j))) := gN_addN i1 (by omega) hl f1 f2 (fun j j0 j1 => ⟨hok j j0 j1, fun j2 => by rw [(hent j j0 j1).2]; exact f6 j j0 j2⟩)
    have hext2 := addN_ext B ((l : Int) + 1) f (fun j => ent (4 * n + j))
    have hBn : aN B = aN A + n := hN
    have hnew : ctA (addN B ((l : Int) + 1) f (fun j => ent (4 * n + j))) (l + 1) (aN B) = imin (pw (l + 1)) (s - n * pw (l + 1)) := by
      rw [addN_ct i1 f1 hok, (hent (f - 1) (by omega) (by omega)).2]
      exact f5
    refine ⟨hgN, fun k k0 k1 => ?_, fun m => ?_⟩
    · by_cases hk : k = n
      · have e : aN A + k = aN B := by omega
        rw [e, hk]
        refine ⟨⟨by omega, by omega, addN_lv _ _ _ _⟩, hnew, fun j j0 j1 => ?_⟩
        have hMk : okB (addN B ((l : Int) + 1) f (fun j => ent (4 * n + j))) (aN (addN B ((l : Int) + 1) f (fun j => ent (4 * n + j)))) (l + 1) (aN B) := ⟨by omega, by rw [addN_N]; omega, addN_lv _ _ _ _⟩
        obtain ⟨q1, q2, q3, q4, q5⟩ := ct_at hgN (Int.le_refl _) hMk j0 j1
        rw [addN_fl] at q2
        rw [addN_en _ _ _ _ q1] at q4 q5
        rw [ext_ct i1 hext2 l (Int.le_refl _) (hok _ q1 q2)] at q4
        rw [addN_gt i1 hok q1 q2 q3 q4]
        obtain ⟨w1, w2, w3⟩ := h3 (4 * n + j / pw l) (by omega) (by omega)
        rw [ext_ct h1 hext l (Int.le_refl _) w1] at q4
        rw [ext_gt h1 hext l (Int.le_refl _) w1 q3 q4, w3 _ q3 q4]
        congr 1
        obtain ⟨d1, d2, d3, d4⟩ := div_ar hl j0
        have e5 : (4 * (n : Int) + j / pw l) * pw l = n * pw (l + 1) + j / pw l * pw l := by
          rw [Int.add_mul]
          have : pw (l + 1) = 4 * pw l := rfl
          rw [this, Int.mul_comm 4 (pw l), ← Int.mul_assoc, Int.mul_comm 4 (n : Int), Int.mul_assoc, Int.mul_comm 4 (pw l), ← Int.mul_assoc]
        rw [e5]
        omega
      · obtain ⟨q1, q2, q3⟩ := i2 k k0 (by omega)
        have hb : okB B (aN B) (l + 1) (aN A + k) := by rw [hBn]; exact q1
        refine ⟨okB_mono (by omega) (ext_ok hext2 (Int.le_refl _) hb), by rw [ext_ct i1 hext2 _ (Int.le_refl _) hb]; exact q2, fun j j0 j1 => ?_⟩
        rw [ext_ct i1 hext2 _ (Int.le_refl _) hb] at j1
        rw [ext_gt i1 hext2 _ (Int.le_refl _) hb j0 j1]
        exact q3 j j0 j1
    · rw [sm_snoc, sm_snoc (g := fun k => ind (aN A + k = m))]
      have e0 : (0 : Int) + (n : Int) = n := by omega
      rw [e0, ← hBn, addN_mu i1 hok]
      rw [sm_congr (h := fun k => muA B (l + 1) (aN A + k) m) _ _ (fun k k0 k1 => ext_mu i1 hext2 m (l + 1) (Int.le_refl _) (by rw [hBn]; exact (i2 k k0 (by omega)).1)), i3 m]
      have him := imin_le (4 * (n : Int)) c
      have him2 := imin_le (4 * ((n + 1 : Nat) : Int)) c
      have e1 : (imin (4 * ((n + 1 : Nat) : Int)) c).toNat = (imin (4 * (n : Int)) c).toNat + f.toNat := by
        have h9 : imin (4 * (n : Int)) c = 4 * n := by omega
        have h10 : imin (4 * ((n + 1 : Nat) : Int)) c = 4 * n + f := by omega
        rw [h9, h10]; omega
      have h9 : ((imin (4 * (n : Int)) c).toNat : Int) = 4 * n := by omega
      rw [e1, sm_split, h9]
      have e2 : sm (fun j => muA B l (ent (4 * n + j)) m) f.toNat 0 = sm (fun k => muA A l (ent k) m) f.toNat (0 + 4 * (n : Int)) := by
        have gen : ∀ (t : Nat) (a : Int), 0 ≤ a → a + t ≤ f → sm (fun j => muA B l (ent (4 * n + j)) m) t a = sm (fun k => muA A l (ent k) m) t (4 * n + a) := by
          intro t
          induction t with
          | zero => intro a _ _; rfl
          | succ t ih =>
            intro a a0 a1
            simp only [sm]
            rw [ih (a + 1) (by omega) (by omega), ext_mu h1 hext m l (Int.le_refl _) (h3 (4 * n + a) (by omega) (by omega)).1]
            have : 4 * (n : Int) + (a + 1) = 4 * n + a + 1 := by omega
            rw [this]
        have := gen f.toNat 0 (Int.le_refl 0) (by omega)
        rw [this]
        have : 4 * (n : Int) + 0 = 0 + 4 * n := by omega
        rw [this]
      rw [e2]
      omega
/-- a whole level -/
theorem LV_up {A : AS} {l : Nat} {ent : Int → Int} {c s : Int} {vals : Int → Int} (hl : l < 3) (h : LV A l ent c s vals) {n : Nat} (hn : 4 * ((n : Int) - 1) < c) (hn2 : c ≤ 4 * n) : LV (mkL ((l : Int) + 1) c ent n A) (l + 1) (fun k => aN A + k) n s vals := by
  obtain ⟨i1, i2, i3⟩ := LV_step hl h n hn
  have hN := mkL_N ((l : Int) + 1) c ent A n
  obtain ⟨h1, h0, ⟨hc1, hcs1, hcs2⟩, h3, h4⟩ := h
  refine ⟨i1, by rw [hN]; omega, ⟨by omega, ?_, ?_⟩, fun k k0 k1 => ?_, fun m => ?_⟩
  · rcases l_cases hl with rfl | rfl | rfl <;> simp only [pw] at * <;> omega
  · rcases l_cases hl with rfl | rfl | rfl <;> simp only [pw] at * <;> omega
  · rw [hN]
    exact i2 k k0 k1
  · have e : (((n : Nat) : Int)).toNat = n := by omega
    rw [e, i3 m]
    have hc : (imin (4 * (n : Int)) c).toNat = c.toNat := by have := imin_le (4 * (n : Int)) c; omega
    rw [hc]
    by_cases hm : aN A ≤ m ∧ m < aN A + n
    · have e1 : sm (fun k => muA A l (ent k) m) c.toNat 0 = 0 := sm_zero _ _ (fun k k0 k1 => by
        cases l with
        | zero => rfl
        | succ l =>
          have hk := (h3 k k0 (by omega)).1
          exact muA_out h1 (l + 1) (Int.le_refl _) hk (by have := hk.2.1; omega) (by omega))
      have e2 := sm_one (g := fun k => ind (aN A + k = m)) (m - aN A) n 0 (by omega) (by omega) (fun k _ _ hk => ind_f (by omega))
      rw [e1, e2, ind_t (by omega)]
      decide
    · have e2 : sm (fun k => ind (aN A + k = m)) n 0 = 0 := sm_zero _ _ (fun k k0 k1 => ind_f (by omega))
      rw [e2]
      have := h4 m
      omega
def E0 : AS := (0, 0, fun _ _ => 0, fun _ _ => 0, fun _ _ => 0)
def cei (c : Int) : Nat := ((c + 3) / 4).toNat
/-- the nodes of version 0 -/
def nd1 (s : Int) (vals : Int → Int) : AS := mkL 1 s vals (cei s) E0
def nd2 (s : Int) (vals : Int → Int) : AS := mkL 2 (cei s) (fun k => k) (cei (cei s)) (nd1 s vals)
def nd3 (s : Int) (vals : Int → Int) : AS := mkL 3 (cei (cei s)) (fun k => (cei s : Int) + k) (cei (cei (cei s))) (nd2 s vals)
def nd0 (s : Int) (vals : Int → Int) : AS := if s ≤ 0 then E0 else if s ≤ 4 then nd1 s vals else if s ≤ 16 then nd2 s vals else nd3 s vals
def mk0 (s : Int) (vals : Int → Int) : AS := addV (nd0 s vals) (-1) (if s ≤ 0 then -1 else aN (nd0 s vals) - 1) s (aN (nd0 s vals)) vals
theorem LV_0 {s : Int} {vals : Int → Int} (h0 : 0 < s) (hv : ∀ i, 0 ≤ i → i < s → -999 ≤ vals i ∧ vals i ≤ 999) : LV E0 0 vals s s vals := by
  refine ⟨fun n h1 h2 => ?_, Int.le_refl 0, ⟨by omega, by simp only [pw]; omega, by simp only [pw]; omega⟩, fun k k0 k1 => ⟨hv k k0 k1, ?_, fun j j0 j1 => ?_⟩, fun m => ?_⟩
  · have h3 : n < 0 := h2
    omega
  · show (1 : Int) = imin 1 (s - k * 1)
    unfold imin
    split <;> omega
  · have h9 : j < 1 := j1
    have hj : j = 0 := by omega
    subst hj
    show vals k = vals (k * 1 + 0)
    congr 1
    omega
  · rw [sm_zero (g := fun k => muA E0 0 (vals k) m) _ _ (fun _ _ _ => rfl)]
    decide
theorem nd0_lv {s : Int} {vals : Int → Int} (h0 : 0 < s) (h64 : s ≤ 64) (hv : ∀ i, 0 ≤ i → i < s → -999 ≤ vals i ∧ vals i ≤ 999) :
    (∃ ent : Int → Int, ent 0 = aN (nd0 s vals) - 1 ∧ LV (nd0 s vals) (hgt s) ent 1 s vals) ∧ 0 ≤ aN (nd0 s vals) ∧ aN (nd0 s vals) ≤ 21 ∧ (aV (nd0 s vals) = 0 ∧ ∀ m, m < aN (nd0 s vals) → coA (nd0 s vals) m = 0) := by
  have c1 : 4 * ((cei s : Int) - 1) < s ∧ s ≤ 4 * (cei s : Int) := by unfold cei; omega
  have L1 := LV_up (l := 0) (by decide) (LV_0 h0 hv) (n := cei s) c1.1 c1.2
  have n1 : aN (nd1 s vals) = (cei s : Int) := by unfold nd1; rw [mkL_N]; show (0 : Int) + _ = _; omega
  have o1 : ∀ m, m < aN (nd1 s vals) → coA (nd1 s vals) m = 0 := fun m hm => mkL_co _ _ _ E0 (fun _ _ => rfl) _ m (by rw [n1] at hm; show m < (0 : Int) + _; omega)
  have c2 : 4 * ((cei (cei s) : Int) - 1) < (cei s : Int) ∧ (cei s : Int) ≤ 4 * (cei (cei s) : Int) := by
    generalize (cei s : Int) = c at c1
    unfold cei; omega
  have n2 : aN (nd2 s vals) = (cei s : Int) + cei (cei s) := by unfold nd2; rw [mkL_N, n1]
  have o2 : ∀ m, m < aN (nd2 s vals) → coA (nd2 s vals) m = 0 := fun m hm => mkL_co _ _ _ (nd1 s vals) o1 _ m (by rw [n2] at hm; rw [n1]; omega)
  have c3 : 4 * ((cei (cei (cei s)) : Int) - 1) < (cei (cei s) : Int) ∧ (cei (cei s) : Int) ≤ 4 * (cei (cei (cei s)) : Int) := by
    generalize (cei (cei s) : Int) = c at c2
    unfold cei; omega
  have n3 : aN (nd3 s vals) = (cei s : Int) + cei (cei s) + cei (cei (cei s)) := by unfold nd3; rw [mkL_N, n2]
  have o3 : ∀ m, m < aN (nd3 s vals) → coA (nd3 s vals) m = 0 := fun m hm => mkL_co _ _ _ (nd2 s vals) o2 _ m (by rw [n3] at hm; rw [n2]; omega)
  have L1' : LV (nd1 s vals) 1 (fun k => 0 + k) (cei s) s vals := L1
  have f1 : (fun k : Int => (0 : Int) + k) = fun k => k := by funext k; omega
  rw [f1] at L1'
  by_cases h4 : s ≤ 4
  · have e : nd0 s vals = nd1 s vals := by unfold nd0; rw [if_neg (by omega), if_pos h4]
    have ec : (cei s : Int) = 1 := by omega
    rw [e, n1, hgt_1 h0 h4]
    rw [ec] at L1'
    exact ⟨⟨fun k => k, by rw [ec]; rfl, L1'⟩, by omega, by omega, (mkL_same _ _ _ E0 _).1, fun m hm => o1 m (by rw [n1]; exact hm)⟩
  · have L2 := LV_up (l := 1) (by decide) L1' (n := cei (cei s)) c2.1 c2.2
    have L2' : LV (nd2 s vals) 2 (fun k => aN (nd1 s vals) + k) (cei (cei s)) s vals := L2
    rw [n1] at L2'
    by_cases h16 : s ≤ 16
    · have e : nd0 s vals = nd2 s vals := by unfold nd0; rw [if_neg (by omega), if_neg h4, if_pos h16]
      have ec : (cei (cei s) : Int) = 1 := by omega
      rw [e, n2, hgt_2 (by omega) h16]
      rw [ec] at L2'
      exact ⟨⟨_, by rw [ec]; show (cei s : Int) + 0 = _; omega, L2'⟩, by omega, by omega, (mkL_same _ _ _ (nd1 s vals) _).1.trans (mkL_same _ _ _ E0 _).1, fun m hm => o2 m (by rw [n2]; exact hm)⟩
    · have L3 := LV_up (l := 2) (by decide) L2' (n := cei (cei (cei s))) c3.1 c3.2
      have L3' : LV (nd3 s vals) 3 (fun k => aN (nd2 s vals) + k) (cei (cei (cei s))) s vals := L3
      rw [n2] at L3'
      have e : nd0 s vals = nd3 s vals := by unfold nd0; rw [if_neg (by omega), if_neg h4, if_neg h16]
      have ec : (cei (cei (cei s)) : Int) = 1 := by omega
      rw [e, n3, hgt_3 (by omega)]
      rw [ec] at L3'
      exact ⟨⟨_, by rw [ec]; show (cei s : Int) + cei (cei s) + 0 = _; omega, L3'⟩, by omega, by omega, ((mkL_same _ _ _ (nd2 s vals) _).1.trans (mkL_same _ _ _ (nd1 s vals) _).1).trans (mkL_same _ _ _ E0 _).1, fun m hm => o3 m (by rw [n3]; exact hm)⟩
theorem Good_mk0 {s : Int} {vals : Int → Int} (h0 : 0 ≤ s) (h64 : s ≤ 64) (hv : ∀ i, 0 ≤ i → i < s → -999 ≤ vals i ∧ vals i ≤ 999) : Good (mk0 s vals) := by
  unfold mk0
  by_cases hs : s ≤ 0
  · have hz : s = 0 := by omega
    subst hz
    have e : nd0 0 vals = E0 := if_pos (Int.le_refl 0)
    rw [e, if_pos (Int.le_refl 0)]
    have hE : aN (addV E0 (-1) (-1) 0 (aN E0) vals) = 0 := rfl
    refine ⟨by show (1 : Int) ≤ 0 + 1 ∧ (0 : Int) + 1 ≤ 40; decide, by show (0 : Int) ≤ 0 ∧ (0 : Int) ≤ 21 + 3 * (0 + 1 - 1); decide, fun n n0 n1 => by rw [hE] at n1; omega, fun v v0 v1 => ?_, rfl⟩
    have hv1 : v < 0 + 1 := v1
    have hz : v = aV E0 := by show v = 0; omega
    subst hz
    rw [addV_sz, addV_rt, addV_pa, addV_rl, addV_cr]
    refine ⟨by decide, by decide, by decide, fun _ => rfl, fun h => absurd h (by decide), ?_, fun _ m hm => ?_⟩
    · unfold okV
      rw [addV_sz, addV_rt]
      exact ⟨fun _ => rfl, fun h => absurd h (by decide)⟩
    · rw [hgt_0 (Int.le_refl 0)] at hm
      exact absurd hm (by show ¬ (0 : Int) < 0; decide)
  · obtain ⟨⟨ent, he, L⟩, n0, n21, hV, hco⟩ := nd0_lv (by omega) h64 hv
    rw [if_neg hs]
    generalize nd0 s vals = A at he L n0 n21 hV hco
    obtain ⟨q1, q2, q3, q4, q5⟩ := L
    obtain ⟨w1, w2, w3⟩ := q4 0 (by decide) (by decide)
    rw [he] at w1 w2 w3
    have hfit := hgt_fit (s := s) (by omega) h64
    have hct : ctA A (hgt s) (aN A - 1) = s := by
      rw [w2]
      have := imin_le (pw (hgt s)) (s - 0 * pw (hgt s))
      omega
    have hmu : ∀ m, muA A (hgt s) (aN A - 1) m ≤ 1 := fun m => by
      have := q5 m
      have e1 : (1 : Int).toNat = 1 := rfl
      rw [e1] at this
      simp only [sm] at this
      rw [he] at this
      omega
    have hext := addV_ext A (-1) (aN A - 1) s (aN A) vals
    refine ⟨by rw [addV_V, hV]; decide, by rw [addV_V, addV_N, hV]; omega, gN_same q1 (addV_N _ _ _ _ _ _) hext (fun n a0 a1 => (q1 n a0 a1).1), fun v v0 v1 => ?_, ?_⟩
    · rw [addV_V, hV] at v1
      have hz : v = aV A := by omega
      subst hz
      rw [addV_sz, addV_rt, addV_pa, addV_rl, addV_cr]
      refine ⟨⟨h0, h64⟩, by decide, ⟨n0, n21⟩, fun _ => rfl, fun h => by omega, ?_, fun _ m hm => ?_⟩
      · unfold okV
        rw [addV_sz, addV_rt]
        refine ⟨fun h => by omega, fun _ => ⟨ext_ok hext (Int.le_refl _) w1, by rw [ext_ct q1 hext _ (Int.le_refl _) w1]; exact hct, fun i i0 i1 => ?_, fun m => by rw [ext_mu q1 hext m _ (Int.le_refl _) w1]; exact hmu m⟩⟩
        rw [ext_gt q1 hext _ (Int.le_refl _) w1 i0 (by rw [hct]; exact i1), addV_e, w3 i i0 (by rw [hct]; exact i1)]
        congr 1
        omega
      · rw [ext_mu q1 hext m _ (Int.le_refl _) w1] at hm
        show coA A m = 0
        have h9 := muA_lv q1 _ (Int.le_refl _) w1 hm
        exact hco m h9.2.2.2
    · rw [addV_V, hV]
      show sm (crA _) 1 0 = _
      simp only [sm]
      have e0 : crA (addV A (-1) (aN A - 1) s (aN A) vals) 0 = aN A := by
        have := addV_cr A (-1) (aN A - 1) s (aN A) vals
        rw [hV] at this
        exact this
      rw [e0, addV_N]
      omega

