/-! the world of cells that the constructors lay: addresses, plans, what they hold at first -/
theorem nth_get {α : Type} : ∀ (a : List α) (k : Nat), nth a k = a[k]?
  | [], _ => rfl
  | _ :: _, 0 => rfl
  | _ :: a, k + 1 => nth_get a k
def allF (P : Nat → SD → Prop) : Nat → List SD → Prop
  | _, [] => True
  | n, x :: r => P n x ∧ allF P (n + 1) r
theorem allF_get {P : Nat → SD → Prop} : ∀ {a : List SD} {n : Nat}, allF P n a → ∀ (k : Nat) (d : SD), a[k]? = some d → P (n + k) d
  | [], _, _, _, _, h => by cases h
  | _ :: _, _, h, 0, _, hk => by cases hk; exact h.1
  | _ :: a, n, h, k + 1, d, hk => by
    have := allF_get (a := a) h.2 k d hk
    rw [show n + 1 + k = n + (k + 1) by omega] at this
    exact this
def adr (a0 a1 b lo n1 a65 k : Nat) : Nat := if k = 0 then a0 else if k = 1 then a1 else if k = 2 then b else if k < 52 then lo + (k - 3) else if k < 65 then n1 + (k - 52) else a65 + (k - 65)
abbrev mkG (D : va_G) (S : (Nat → Nat) × (Nat → Nat)) (a0 a1 b lo n1 a65 : Nat) : GG := (D, (adr a0 a1 b lo n1 a65, S))
def skS (nS : Nat) : List SD := [.inl (0, 10), .inl (0, 15), .inl (0, nS), .inr (11, [some 4, some 19, none, some 34, some 36, some 38, some 43, some 45, some 46, some 48, some 50]), .inr (8, [some 5, some 10]), .inr (3, [none, some 6, some 7, some 8, some 9]), .inl (0, 138), .inl (0, 138), .inl (0, 552), .inl (1, 138), .inr (10, [none, some 11, some 12, some 13, some 14, some 15, some 16, some 17, some 18]), .inl (0, 40), .inl (0, 40), .inl (0, 40), .inl (0, 40), .inl (0, 40), .inl (0, 40), .inl (0, 64), .inl (1, 40), .inr (8, [some 20, some 25]), .inr (3, [none, some 21, some 22, some 23, some 24]), .inl (0, 138), .inl (0, 138), .inl (0, 552), .inl (1, 138), .inr (10, [none, some 26, some 27, some 28, some 29, some 30, some 31, some 32, some 33]), .inl (0, 40), .inl (0, 40), .inl (0, 40), .inl (0, 40), .inl (0, 40), .inl (0, 40), .inl (0, 64), .inl (1, 40), .inr (5, [some 4, some 35]), .inl (1, 138), .inr (0, [some 4, some 34, some 37]), .inl (1, 138), .inr (1, [none, none, some 39, some 40, some 41, some 42]), .inl (0, 8), .inl (0, 8), .inl (1, 320), .inl (1, 1104), .inr (2, [none, some 44]), .inl (0, 600), .inr (9, [some 43, none, none, none, none, none, none, none]), .inr (7, [some 45, none, none, some 47, none]), .inl (0, 64), .inr (6, [some 45, some 49, none, none, none, none]), .inl (0, 120), .inr (4, [none, some 51]), .inl (0, 321)]
theorem ext_app {nS : Nat} {X : List SD} : ∀ (k : Nat) (d : SD), k ≠ 2 → nth (skC ++ X) k = some d → (skS nS ++ X)[k]? = some d
  | 0, _, _, h => h
  | 1, _, _, h => h
  | 2, _, h, _ => absurd rfl h
  | k + 3, d, _, h => (nth_get _ _).symm.trans h
theorem Ext_skS (nS : Nat) : Ext (skS nS) := fun k d h2 hk => by
  have := ext_app (nS := nS) (X := []) k d h2 (by rw [List.append_nil]; exact hk)
  rw [List.append_nil] at this
  exact this
theorem ExtM_skS (nS : Nat) (X : List SD) : ExtM (skS nS ++ (skM ++ X)) := fun k d h2 hk => ext_app k d h2 (by rw [← List.append_assoc]; exact nth_app hk)
theorem ExtL_skS (nS : Nat) : ExtL (skS nS ++ (skM ++ skO)) := fun k d h2 hk => ext_app k d h2 (by rw [← List.append_assoc]; exact hk)
def mC (m0 m1 xs : Nat → Int) : Mem := fun k i => if k = 0 then m0 i else if k = 1 then m1 i else if k = 2 then xs i else if k = 45 ∧ i = 7 then -1 else 0
def mM (M : Mem) : Mem := fun k i => if k < 52 then M k i else if k = 52 ∧ i = 15 then -1 else 0
theorem cOKa {Γ : GG} {U : State} {H : Heap} {t n a : Nat} {f : Nat → Int} (h : pOK Γ.1 U H (.inl (t, n)) a) (hf : ∀ j, f j = 0) : cOK Γ U H (.inl (t, n)) a f := by
  obtain ⟨cell, h1, h2, h3, h4, h5⟩ := h
  exact ⟨cell, h1, h2, h3, h4, fun j hj => by rw [hf j]; exact h5 j hj⟩
theorem cOKo {Γ : GG} {U : State} {H : Heap} {ci N a : Nat} {F : List Value} {fs : List (Option Nat)} {f : Nat → Int} {K : String} {T : u_T} (h : pOK Γ.1 U H (.inr (ci, F)) a) (hc : vwCl[ci]? = some (K, T, N)) (hf : ∀ j, j < N → vp_V F j = fv Γ f fs j) : cOK Γ U H (.inr (ci, fs)) a f := by
  obtain ⟨r, h1, h2⟩ := h
  cases Option.some.inj (h1.symm.trans hc)
  exact ⟨_, hc, t_OB.to h2 hf⟩
theorem va_S_sub {A B : Nat → Prop} {H0 H : Heap} {locs : List Loc} (h : va_S A H0 H locs) (hAB : ∀ q, A q → B q) : va_S B H0 H locs := ⟨h.1, fun q h1 h2 => h.2.1 q h1 (fun z => h2 (hAB q z)), fun z hz => hAB _ (h.2.2 z hz)⟩
theorem gA_hi {D : va_G} {S : (Nat → Nat) × (Nat → Nat)} {a0 a1 b lo n1 a65 k : Nat} (h3 : 3 ≤ k) (h1 : lo ≤ n1) (h2 : lo ≤ a65) : lo ≤ gA (mkG D S a0 a1 b lo n1 a65) k := by
  show lo ≤ adr a0 a1 b lo n1 a65 k
  unfold adr
  rw [if_neg (by omega), if_neg (by omega), if_neg (by omega)]
  split
  · omega
  · split <;> omega
set_option maxHeartbeats 4000000 in
theorem wP_X11 {s : State} {H : Heap} {D : va_G} {S : (Nat → Nat) × (Nat → Nat)} {a0 a1 b lo n1 a65 nS : Nat} {m0 m1 xs : Nat → Int} (hP : pP D s H lo [.inr (11, [.ref (lo + 1), .ref (lo + 16), .int 0, .ref (lo + 31), .ref (lo + 33), .ref (lo + 35), .ref (lo + 40), .ref (lo + 42), .ref (lo + 43), .ref (lo + 45), .ref (lo + 47)]), .inr (8, [.ref (lo + 2), .ref (lo + 7)]), .inr (3, [.int 0, .ref (lo + 3), .ref (lo + 4), .ref (lo + 5), .ref (lo + 6)]), .inl (0, 138), .inl (0, 138), .inl (0, 552), .inl (1, 138), .inr (10, [.int 0, .ref (lo + 8), .ref (lo + 9), .ref (lo + 10), .ref (lo + 11), .ref (lo + 12), .ref (lo + 13), .ref (lo + 14), .ref (lo + 15)]), .inl (0, 40), .inl (0, 40), .inl (0, 40), .inl (0, 40), .inl (0, 40), .inl (0, 40), .inl (0, 64), .inl (1, 40), .inr (8, [.ref (lo + 17), .ref (lo + 22)]), .inr (3, [.int 0, .ref (lo + 18), .ref (lo + 19), .ref (lo + 20), .ref (lo + 21)]), .inl (0, 138), .inl (0, 138), .inl (0, 552), .inl (1, 138), .inr (10, [.int 0, .ref (lo + 23), .ref (lo + 24), .ref (lo + 25), .ref (lo + 26), .ref (lo + 27), .ref (lo + 28), .ref (lo + 29), .ref (lo + 30)]), .inl (0, 40), .inl (0, 40), .inl (0, 40), .inl (0, 40), .inl (0, 40), .inl (0, 40), .inl (0, 64), .inl (1, 40), .inr (5, [.ref (lo + 1), .ref (lo + 32)]), .inl (1, 138), .inr (0, [.ref (lo + 1), .ref (lo + 31), .ref (lo + 34)]), .inl (1, 138), .inr (1, [.int 0, .int 0, .ref (lo + 36), .ref (lo + 37), .ref (lo + 38), .ref (lo + 39)]), .inl (0, 8), .inl (0, 8), .inl (1, 320), .inl (1, 1104), .inr (2, [.int 0, .ref (lo + 41)]), .inl (0, 600), .inr (9, [.ref (lo + 40), .int 0, .int 0, .int 0, .int 0, .int 0, vi (0), vi (-1)]), .inr (7, [.ref (lo + 42), .int 0, .int 0, .ref (lo + 44), .int 0]), .inl (0, 64), .inr (6, [.ref (lo + 42), .ref (lo + 46), .int 0, .int 0, .int 0, .int 0]), .inl (0, 120), .inr (4, [.int 0, .ref (lo + 48)]), .inl (0, 321)]) (p0 : cOK (mkG D S a0 a1 b lo n1 a65) s H (.inl (0, 10)) a0 m0) (p1 : cOK (mkG D S a0 a1 b lo n1 a65) s H (.inl (0, 15)) a1 m1) (p2 : cOK (mkG D S a0 a1 b lo n1 a65) s H (.inl (0, nS)) b xs) : wP (mkG D S a0 a1 b lo n1 a65) (skS nS) s H (mC m0 m1 xs) := by
  let Γ : GG := mkG D S a0 a1 b lo n1 a65
  have p3 : cOK Γ s H (.inr (11, [some 4, some 19, none, some 34, some 36, some 38, some 43, some 45, some 46, some 48, some 50])) (gA Γ 3) (mC m0 m1 xs 3) := cOKo (K := RX11) (T := TX11) (N := 11) (hP 0 _ rfl) rfl (fun j hj => by rcases (show j = 0 ∨ j = 1 ∨ j = 2 ∨ j = 3 ∨ j = 4 ∨ j = 5 ∨ j = 6 ∨ j = 7 ∨ j = 8 ∨ j = 9 ∨ j = 10 by omega) with rfl | rfl | rfl | rfl | rfl | rfl | rfl | rfl | rfl | rfl | rfl <;> rfl)
  have p4 : cOK Γ s H (.inr (8, [some 5, some 10])) (gA Γ 4) (mC m0 m1 xs 4) := cOKo (K := RX8) (T := TX8) (N := 2) (hP 1 _ rfl) rfl (fun j hj => by rcases (show j = 0 ∨ j = 1 by omega) with rfl | rfl <;> rfl)
  have p5 : cOK Γ s H (.inr (3, [none, some 6, some 7, some 8, some 9])) (gA Γ 5) (mC m0 m1 xs 5) := cOKo (K := RX3) (T := TX3) (N := 5) (hP 2 _ rfl) rfl (fun j hj => by rcases (show j = 0 ∨ j = 1 ∨ j = 2 ∨ j = 3 ∨ j = 4 by omega) with rfl | rfl | rfl | rfl | rfl <;> rfl)
  have p6 : cOK Γ s H (.inl (0, 138)) (gA Γ 6) (mC m0 m1 xs 6) := cOKa (hP 3 _ rfl) (fun j => rfl)
  have p7 : cOK Γ s H (.inl (0, 138)) (gA Γ 7) (mC m0 m1 xs 7) := cOKa (hP 4 _ rfl) (fun j => rfl)
  have p8 : cOK Γ s H (.inl (0, 552)) (gA Γ 8) (mC m0 m1 xs 8) := cOKa (hP 5 _ rfl) (fun j => rfl)
  have p9 : cOK Γ s H (.inl (1, 138)) (gA Γ 9) (mC m0 m1 xs 9) := cOKa (hP 6 _ rfl) (fun j => rfl)
  have p10 : cOK Γ s H (.inr (10, [none, some 11, some 12, some 13, some 14, some 15, some 16, some 17, some 18])) (gA Γ 10) (mC m0 m1 xs 10) := cOKo (K := RX10) (T := TX10) (N := 9) (hP 7 _ rfl) rfl (fun j hj => by rcases (show j = 0 ∨ j = 1 ∨ j = 2 ∨ j = 3 ∨ j = 4 ∨ j = 5 ∨ j = 6 ∨ j = 7 ∨ j = 8 by omega) with rfl | rfl | rfl | rfl | rfl | rfl | rfl | rfl | rfl <;> rfl)
  have p11 : cOK Γ s H (.inl (0, 40)) (gA Γ 11) (mC m0 m1 xs 11) := cOKa (hP 8 _ rfl) (fun j => rfl)
  have p12 : cOK Γ s H (.inl (0, 40)) (gA Γ 12) (mC m0 m1 xs 12) := cOKa (hP 9 _ rfl) (fun j => rfl)
  have p13 : cOK Γ s H (.inl (0, 40)) (gA Γ 13) (mC m0 m1 xs 13) := cOKa (hP 10 _ rfl) (fun j => rfl)
  have p14 : cOK Γ s H (.inl (0, 40)) (gA Γ 14) (mC m0 m1 xs 14) := cOKa (hP 11 _ rfl) (fun j => rfl)
  have p15 : cOK Γ s H (.inl (0, 40)) (gA Γ 15) (mC m0 m1 xs 15) := cOKa (hP 12 _ rfl) (fun j => rfl)
  have p16 : cOK Γ s H (.inl (0, 40)) (gA Γ 16) (mC m0 m1 xs 16) := cOKa (hP 13 _ rfl) (fun j => rfl)
  have p17 : cOK Γ s H (.inl (0, 64)) (gA Γ 17) (mC m0 m1 xs 17) := cOKa (hP 14 _ rfl) (fun j => rfl)
  have p18 : cOK Γ s H (.inl (1, 40)) (gA Γ 18) (mC m0 m1 xs 18) := cOKa (hP 15 _ rfl) (fun j => rfl)
  have p19 : cOK Γ s H (.inr (8, [some 20, some 25])) (gA Γ 19) (mC m0 m1 xs 19) := cOKo (K := RX8) (T := TX8) (N := 2) (hP 16 _ rfl) rfl (fun j hj => by rcases (show j = 0 ∨ j = 1 by omega) with rfl | rfl <;> rfl)
  have p20 : cOK Γ s H (.inr (3, [none, some 21, some 22, some 23, some 24])) (gA Γ 20) (mC m0 m1 xs 20) := cOKo (K := RX3) (T := TX3) (N := 5) (hP 17 _ rfl) rfl (fun j hj => by rcases (show j = 0 ∨ j = 1 ∨ j = 2 ∨ j = 3 ∨ j = 4 by omega) with rfl | rfl | rfl | rfl | rfl <;> rfl)
  have p21 : cOK Γ s H (.inl (0, 138)) (gA Γ 21) (mC m0 m1 xs 21) := cOKa (hP 18 _ rfl) (fun j => rfl)
  have p22 : cOK Γ s H (.inl (0, 138)) (gA Γ 22) (mC m0 m1 xs 22) := cOKa (hP 19 _ rfl) (fun j => rfl)
  have p23 : cOK Γ s H (.inl (0, 552)) (gA Γ 23) (mC m0 m1 xs 23) := cOKa (hP 20 _ rfl) (fun j => rfl)
  have p24 : cOK Γ s H (.inl (1, 138)) (gA Γ 24) (mC m0 m1 xs 24) := cOKa (hP 21 _ rfl) (fun j => rfl)
  have p25 : cOK Γ s H (.inr (10, [none, some 26, some 27, some 28, some 29, some 30, some 31, some 32, some 33])) (gA Γ 25) (mC m0 m1 xs 25) := cOKo (K := RX10) (T := TX10) (N := 9) (hP 22 _ rfl) rfl (fun j hj => by rcases (show j = 0 ∨ j = 1 ∨ j = 2 ∨ j = 3 ∨ j = 4 ∨ j = 5 ∨ j = 6 ∨ j = 7 ∨ j = 8 by omega) with rfl | rfl | rfl | rfl | rfl | rfl | rfl | rfl | rfl <;> rfl)
  have p26 : cOK Γ s H (.inl (0, 40)) (gA Γ 26) (mC m0 m1 xs 26) := cOKa (hP 23 _ rfl) (fun j => rfl)
  have p27 : cOK Γ s H (.inl (0, 40)) (gA Γ 27) (mC m0 m1 xs 27) := cOKa (hP 24 _ rfl) (fun j => rfl)
  have p28 : cOK Γ s H (.inl (0, 40)) (gA Γ 28) (mC m0 m1 xs 28) := cOKa (hP 25 _ rfl) (fun j => rfl)
  have p29 : cOK Γ s H (.inl (0, 40)) (gA Γ 29) (mC m0 m1 xs 29) := cOKa (hP 26 _ rfl) (fun j => rfl)
  have p30 : cOK Γ s H (.inl (0, 40)) (gA Γ 30) (mC m0 m1 xs 30) := cOKa (hP 27 _ rfl) (fun j => rfl)
  have p31 : cOK Γ s H (.inl (0, 40)) (gA Γ 31) (mC m0 m1 xs 31) := cOKa (hP 28 _ rfl) (fun j => rfl)
  have p32 : cOK Γ s H (.inl (0, 64)) (gA Γ 32) (mC m0 m1 xs 32) := cOKa (hP 29 _ rfl) (fun j => rfl)
  have p33 : cOK Γ s H (.inl (1, 40)) (gA Γ 33) (mC m0 m1 xs 33) := cOKa (hP 30 _ rfl) (fun j => rfl)
  have p34 : cOK Γ s H (.inr (5, [some 4, some 35])) (gA Γ 34) (mC m0 m1 xs 34) := cOKo (K := RX5) (T := TX5) (N := 2) (hP 31 _ rfl) rfl (fun j hj => by rcases (show j = 0 ∨ j = 1 by omega) with rfl | rfl <;> rfl)
  have p35 : cOK Γ s H (.inl (1, 138)) (gA Γ 35) (mC m0 m1 xs 35) := cOKa (hP 32 _ rfl) (fun j => rfl)
  have p36 : cOK Γ s H (.inr (0, [some 4, some 34, some 37])) (gA Γ 36) (mC m0 m1 xs 36) := cOKo (K := RX0) (T := TX0) (N := 3) (hP 33 _ rfl) rfl (fun j hj => by rcases (show j = 0 ∨ j = 1 ∨ j = 2 by omega) with rfl | rfl | rfl <;> rfl)
  have p37 : cOK Γ s H (.inl (1, 138)) (gA Γ 37) (mC m0 m1 xs 37) := cOKa (hP 34 _ rfl) (fun j => rfl)
  have p38 : cOK Γ s H (.inr (1, [none, none, some 39, some 40, some 41, some 42])) (gA Γ 38) (mC m0 m1 xs 38) := cOKo (K := RX1) (T := TX1) (N := 6) (hP 35 _ rfl) rfl (fun j hj => by rcases (show j = 0 ∨ j = 1 ∨ j = 2 ∨ j = 3 ∨ j = 4 ∨ j = 5 by omega) with rfl | rfl | rfl | rfl | rfl | rfl <;> rfl)
  have p39 : cOK Γ s H (.inl (0, 8)) (gA Γ 39) (mC m0 m1 xs 39) := cOKa (hP 36 _ rfl) (fun j => rfl)
  have p40 : cOK Γ s H (.inl (0, 8)) (gA Γ 40) (mC m0 m1 xs 40) := cOKa (hP 37 _ rfl) (fun j => rfl)
  have p41 : cOK Γ s H (.inl (1, 320)) (gA Γ 41) (mC m0 m1 xs 41) := cOKa (hP 38 _ rfl) (fun j => rfl)
  have p42 : cOK Γ s H (.inl (1, 1104)) (gA Γ 42) (mC m0 m1 xs 42) := cOKa (hP 39 _ rfl) (fun j => rfl)
  have p43 : cOK Γ s H (.inr (2, [none, some 44])) (gA Γ 43) (mC m0 m1 xs 43) := cOKo (K := RX2) (T := TX2) (N := 2) (hP 40 _ rfl) rfl (fun j hj => by rcases (show j = 0 ∨ j = 1 by omega) with rfl | rfl <;> rfl)
  have p44 : cOK Γ s H (.inl (0, 600)) (gA Γ 44) (mC m0 m1 xs 44) := cOKa (hP 41 _ rfl) (fun j => rfl)
  have p45 : cOK Γ s H (.inr (9, [some 43, none, none, none, none, none, none, none])) (gA Γ 45) (mC m0 m1 xs 45) := cOKo (K := RX9) (T := TX9) (N := 8) (hP 42 _ rfl) rfl (fun j hj => by rcases (show j = 0 ∨ j = 1 ∨ j = 2 ∨ j = 3 ∨ j = 4 ∨ j = 5 ∨ j = 6 ∨ j = 7 by omega) with rfl | rfl | rfl | rfl | rfl | rfl | rfl | rfl <;> rfl)
  have p46 : cOK Γ s H (.inr (7, [some 45, none, none, some 47, none])) (gA Γ 46) (mC m0 m1 xs 46) := cOKo (K := RX7) (T := TX7) (N := 5) (hP 43 _ rfl) rfl (fun j hj => by rcases (show j = 0 ∨ j = 1 ∨ j = 2 ∨ j = 3 ∨ j = 4 by omega) with rfl | rfl | rfl | rfl | rfl <;> rfl)
  have p47 : cOK Γ s H (.inl (0, 64)) (gA Γ 47) (mC m0 m1 xs 47) := cOKa (hP 44 _ rfl) (fun j => rfl)
  have p48 : cOK Γ s H (.inr (6, [some 45, some 49, none, none, none, none])) (gA Γ 48) (mC m0 m1 xs 48) := cOKo (K := RX6) (T := TX6) (N := 6) (hP 45 _ rfl) rfl (fun j hj => by rcases (show j = 0 ∨ j = 1 ∨ j = 2 ∨ j = 3 ∨ j = 4 ∨ j = 5 by omega) with rfl | rfl | rfl | rfl | rfl | rfl <;> rfl)
  have p49 : cOK Γ s H (.inl (0, 120)) (gA Γ 49) (mC m0 m1 xs 49) := cOKa (hP 46 _ rfl) (fun j => rfl)
  have p50 : cOK Γ s H (.inr (4, [none, some 51])) (gA Γ 50) (mC m0 m1 xs 50) := cOKo (K := RX4) (T := TX4) (N := 2) (hP 47 _ rfl) rfl (fun j hj => by rcases (show j = 0 ∨ j = 1 by omega) with rfl | rfl <;> rfl)
  have p51 : cOK Γ s H (.inl (0, 321)) (gA Γ 51) (mC m0 m1 xs 51) := cOKa (hP 48 _ rfl) (fun j => rfl)
  have ha : allF (fun k d => cOK Γ s H d (gA Γ k) (mC m0 m1 xs k)) 0 (skS nS) := ⟨p0, p1, p2, p3, p4, p5, p6, p7, p8, p9, p10, p11, p12, p13, p14, p15, p16, p17, p18, p19, p20, p21, p22, p23, p24, p25, p26, p27, p28, p29, p30, p31, p32, p33, p34, p35, p36, p37, p38, p39, p40, p41, p42, p43, p44, p45, p46, p47, p48, p49, p50, p51, trivial⟩
  intro k d hk
  have := allF_get ha k d hk
  rw [Nat.zero_add] at this
  exact this
theorem mM_lo {M : Mem} {k : Nat} (h : k < 52) : mM M k = M k := by
  funext i
  exact if_pos h
set_option maxHeartbeats 4000000 in
theorem wP_X12 {s : State} {H : Heap} {D : va_G} {S : (Nat → Nat) × (Nat → Nat)} {a0 a1 b lo0 lo a65 nS : Nat} {M : Mem} (hP : pP D s H lo [.inr (12, [.ref (lo + 1), .ref (lo + 2), .ref (lo + 3), .ref (lo + 4), .int 0, .int 0, .int 0, .ref (lo + 5), .ref (lo + 6), .int 0, .ref (lo + 7), .ref (lo + 8), .ref (lo + 9), .int 0, .int 0, vi (-1), .int 0, .int 0, .int 0, .int 0, .int 0, .int 0, .ref (lo + 10), .int 0, .ref (lo + 11), .int 0, .ref (lo + 12), .int 0]), .inl (0, 4210), .inl (0, 4210), .inl (0, 4210), .inl (0, 33680), .inl (0, 4), .inl (0, 64), .inl (0, 64), .inl (0, 200), .inl (2, 600), .inl (0, 120), .inl (0, 64), .inl (2, 322), .inl (0, 10)]) (ht : a65 = lo + 13) (hw : wP (mkG D S a0 a1 b lo0 lo a65) (skS nS) s H M) : wP (mkG D S a0 a1 b lo0 lo a65) (skS nS ++ (skM ++ [.inl (0, 10)])) s H (mM M) := by
  subst ht
  let Γ : GG := mkG D S a0 a1 b lo0 lo (lo + 13)
  have p52 : cOK Γ s H (.inr (12, [some 53, some 54, some 55, some 56, none, none, none, some 57, some 58, none, some 59, some 60, some 61, none, none, none, none, none, none, none, none, none, some 62, none, some 63, none, some 64, none])) (gA Γ 52) (mM M 52) := cOKo (K := RX12) (T := TX12) (N := 28) (hP 0 _ rfl) rfl (fun j hj => by rcases (show j = 0 ∨ j = 1 ∨ j = 2 ∨ j = 3 ∨ j = 4 ∨ j = 5 ∨ j = 6 ∨ j = 7 ∨ j = 8 ∨ j = 9 ∨ j = 10 ∨ j = 11 ∨ j = 12 ∨ j = 13 ∨ j = 14 ∨ j = 15 ∨ j = 16 ∨ j = 17 ∨ j = 18 ∨ j = 19 ∨ j = 20 ∨ j = 21 ∨ j = 22 ∨ j = 23 ∨ j = 24 ∨ j = 25 ∨ j = 26 ∨ j = 27 by omega) with rfl | rfl | rfl | rfl | rfl | rfl | rfl | rfl | rfl | rfl | rfl | rfl | rfl | rfl | rfl | rfl | rfl | rfl | rfl | rfl | rfl | rfl | rfl | rfl | rfl | rfl | rfl | rfl <;> rfl)
  have p53 : cOK Γ s H (.inl (0, 4210)) (gA Γ 53) (mM M 53) := cOKa (hP 1 _ rfl) (fun j => rfl)
  have p54 : cOK Γ s H (.inl (0, 4210)) (gA Γ 54) (mM M 54) := cOKa (hP 2 _ rfl) (fun j => rfl)
  have p55 : cOK Γ s H (.inl (0, 4210)) (gA Γ 55) (mM M 55) := cOKa (hP 3 _ rfl) (fun j => rfl)
  have p56 : cOK Γ s H (.inl (0, 33680)) (gA Γ 56) (mM M 56) := cOKa (hP 4 _ rfl) (fun j => rfl)
  have p57 : cOK Γ s H (.inl (0, 4)) (gA Γ 57) (mM M 57) := cOKa (hP 5 _ rfl) (fun j => rfl)
  have p58 : cOK Γ s H (.inl (0, 64)) (gA Γ 58) (mM M 58) := cOKa (hP 6 _ rfl) (fun j => rfl)
  have p59 : cOK Γ s H (.inl (0, 64)) (gA Γ 59) (mM M 59) := cOKa (hP 7 _ rfl) (fun j => rfl)
  have p60 : cOK Γ s H (.inl (0, 200)) (gA Γ 60) (mM M 60) := cOKa (hP 8 _ rfl) (fun j => rfl)
  have p61 : cOK Γ s H (.inl (2, 600)) (gA Γ 61) (mM M 61) := cOKa (hP 9 _ rfl) (fun j => rfl)
  have p62 : cOK Γ s H (.inl (0, 120)) (gA Γ 62) (mM M 62) := cOKa (hP 10 _ rfl) (fun j => rfl)
  have p63 : cOK Γ s H (.inl (0, 64)) (gA Γ 63) (mM M 63) := cOKa (hP 11 _ rfl) (fun j => rfl)
  have p64 : cOK Γ s H (.inl (2, 322)) (gA Γ 64) (mM M 64) := cOKa (hP 12 _ rfl) (fun j => rfl)
  have p65 : cOK Γ s H (.inl (0, 10)) (gA Γ 65) (mM M 65) := cOKa (hP 13 _ rfl) (fun j => rfl)
  have ha : allF (fun k d => cOK Γ s H d (gA Γ k) (mM M k)) 52 (skM ++ [.inl (0, 10)]) := ⟨p52, p53, p54, p55, p56, p57, p58, p59, p60, p61, p62, p63, p64, p65, trivial⟩
  intro k d hk
  by_cases h : k < 52
  · rw [List.getElem?_append_left h] at hk
    rw [mM_lo h]
    exact hw k d hk
  · rw [List.getElem?_append_right (Nat.le_of_not_lt h)] at hk
    have := allF_get ha (k - 52) d hk
    rw [show 52 + (k - 52) = k by omega] at this
    exact this
