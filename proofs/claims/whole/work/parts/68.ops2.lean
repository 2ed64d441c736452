/-! sums of seats -/
theorem sF_add (f g : Nat → Nat) : ∀ n, sF (fun k => f k + g k) n = sF f n + sF g n := by
  intro n
  induction n with
  | zero => rfl
  | succ n ih =>
    show sF (fun k => f k + g k) n + (f n + g n) = (sF f n + f n) + (sF g n + g n)
    omega
theorem sF_congr {f g : Nat → Nat} : ∀ {n}, (∀ k, k < n → f k = g k) → sF f n = sF g n := by
  intro n
  induction n with
  | zero => intro _; rfl
  | succ n ih =>
    intro h
    show sF f n + f n = sF g n + g n
    rw [ih (fun k hk => h k (by omega)), h n (by omega)]
theorem pSi_sum {N : Nat → Nat} {w H : Nat} (ok : okH N w H) : ∀ l, l ≤ 6 → sF (pSi N w H l) 6 = sF (lst N w H).s l := by
  intro l
  induction l with
  | zero => exact fun _ => sF_z (fun k _ => pSi_0 N w H k)
  | succ l ih =>
    intro hl
    obtain ⟨s2, e⟩ := Option.isSome_iff_exists.mp (ok.2 l (by omega))
    have g := (gvN_ok (PM_z N l) e).1
    rw [sF_congr (fun k hk => (pSi_step e hk).1), sF_add, ih (by omega), g]
    rfl
theorem pS_sum {N : Nat → Nat} (v : Vn N) {w H : Nat} (ok : okHb N w H = true) : sF (pS N w H) 6 = H := by
  have ok2 := (okHb_iff N w H).mp ok
  obtain ⟨st, e⟩ := Option.isSome_iff_exists.mp ok2.1
  have e1 : sF (pS N w H) 6 = sF (pSi N w H 6) 6 := sF_congr (fun k hk => (pSi_6 v w H hk).symm)
  rw [e1, pSi_sum ok2 6 (Nat.le_refl 6)]
  exact (lst_ok e).2.1
theorem pS_le {N : Nat → Nat} (v : Vn N) {w H : Nat} (ok : okHb N w H = true) {k : Nat} (hk : k < 6) : pS N w H k ≤ H := by
  have := sF_le (F := pS N w H) hk
  rw [pS_sum v ok] at this
  exact this
def absd (a b : Nat) : Nat := (a - b) + (b - a)
theorem absd_comm (a b : Nat) : absd a b = absd b a := Nat.add_comm _ _
theorem absI {a b : Nat} (ha : a < 2 ^ 30) (hb : b < 2 ^ 30) : (if 0 ≤ nI a - nI b then nI a - nI b else 0 - (nI a - nI b)) = nI (absd a b) := by
  unfold absd
  by_cases h : b ≤ a
  · rw [pk_sub h, if_pos (nI_pos' (by omega)), show b - a = 0 by omega, Nat.add_zero]
  · have n : ¬ 0 ≤ nI a - nI b := Int32.not_le.mpr (pk_sneg (by omega) (by omega))
    rw [if_neg n, show a - b = 0 by omega, Nat.zero_add, ← pk_sub (show a ≤ b by omega)]
    apply Int32.toBitVec_inj.mp
    simp only [Int32.toBitVec_sub]
    rw [show (0 : Int32).toBitVec = 0 from rfl]
    bv_omega
def awy (P Q : Nat → Nat) : Nat := sF (fun k => absd (P k) (Q k)) 6
theorem awy_comm (P Q : Nat → Nat) : awy P Q = awy Q P := sF_congr (fun k _ => absd_comm _ _)
theorem awy_even {P Q : Nat → Nat} (h : sF P 6 = sF Q 6) : awy P Q % 2 = 0 := by
  have e : sF (fun k => absd (P k) (Q k) + 2 * min (P k) (Q k)) 6 = sF (fun k => P k + Q k) 6 := sF_congr (fun k _ => by unfold absd; omega)
  rw [sF_add, sF_add, h] at e
  have e2 : ∀ f : Nat → Nat, sF (fun k => 2 * f k) 6 = 2 * sF f 6 := fun f => by rw [sF6, sF6]; omega
  rw [e2] at e
  unfold awy
  omega
theorem awy_le {P Q : Nat → Nat} (h1 : ∀ k, k < 6 → P k ≤ 60) (h2 : ∀ k, k < 6 → Q k ≤ 60) : awy P Q ≤ 360 := by
  have := sF_bd (f := fun k => absd (P k) (Q k)) (B := 60) (fun k hk => by
    have := h1 k hk
    have := h2 k hk
    show absd (P k) (Q k) ≤ 60
    unfold absd
    omega) 6 (Nat.le_refl 6)
  exact this
theorem away8 {h : Hp} {A B : Nat} {P Q : Nat → Nat} (h1 : ∀ k, k < 6 → P k ≤ 60) (h2 : ∀ k, k < 6 → Q k ≤ 60) (e1 : ∀ k, k < 6 → h.1 (A + 10) k = nI (P k)) (e2 : ∀ k, k < 6 → h.1 (B + 10) k = nI (Q k)) : f_X1_awayFrom A B h = some (nI (awy P Q), h) := by
  unfold f_X1_awayFrom
  refine lp_seq (F := Nat → Nat → Int32 → Int32 → Hp → Option (Int32 × Hp)) (bot := fun _ _ _ _ _ => none) (G := f_X1_awayFrom_4) (fun K i (x : Nat) => K A B (nI x) (nI i) h) 6 (fun i => sF (fun k => absd (P k) (Q k)) i) _ ?_ ?_ 1000 0 (by omega) (by omega)
  · intro K i hi
    have := h1 i hi
    have := h2 i hi
    show f_X1_awayFrom_4 K A B _ (nI i) h = _
    unfold f_X1_awayFrom_4
    rw [if_neg (ge6 hi), if_pos (ix6 hi), if_pos (ix6 hi), cl6' hi, e1 i hi, e2 i hi, absI (by omega) (by omega)]
    simp only [lt, nI_1, nI_add]
    rfl
  · intro K
    show f_X1_awayFrom_4 K A B _ (nI 6) h = _
    unfold f_X1_awayFrom_4
    rw [if_pos (show (6 : Int32) ≤ nI 6 by decide)]
    rfl
theorem differs9 {h : Hp} {P Q : Nat → Nat} (h1 : ∀ k, k < 6 → P k ≤ 60) (h2 : ∀ k, k < 6 → Q k ≤ 60) (e1 : ∀ k, k < 6 → h.1 124 k = nI (P k)) (e2 : ∀ k, k < 6 → h.1 126 k = nI (Q k)) : f_X9_differs 108 h = some (nI (awy P Q / 2), h) := by
  have hb := awy_le h1 h2
  unfold f_X9_differs
  refine lp_seq (F := Nat → Int32 → Int32 → Hp → Option (Int32 × Hp)) (bot := fun _ _ _ _ => none) (G := f_X9_differs_4) (fun K i (x : Nat) => K 108 (nI x) (nI i) h) 6 (fun i => sF (fun k => absd (P k) (Q k)) i) _ ?_ ?_ 1000 0 (by omega) (by omega)
  · intro K i hi
    have := h1 i hi
    have := h2 i hi
    show f_X9_differs_4 K 108 _ (nI i) h = _
    unfold f_X9_differs_4
    rw [if_neg (ge6 hi), if_pos (ix6 hi), if_pos (ix6 hi), cl6' hi, show h.1 (108 + 16) i = _ from e1 i hi, show h.1 (108 + 18) i = _ from e2 i hi, absI (by omega) (by omega)]
    simp only [lt, nI_1, nI_add]
    rfl
  · intro K
    show f_X9_differs_4 K 108 (nI (awy P Q)) (nI 6) h = _
    unfold f_X9_differs_4
    rw [if_pos (show (6 : Int32) ≤ nI 6 by decide), if_neg (by decide), show (2 : Int32) = nI 2 from rfl, pk_div (by omega) (by decide) (by decide)]
theorem holdsH9 {h : Hp} {P : Nat → Nat} (e1 : ∀ k, k < 6 → h.1 124 k = nI (P k)) : ∃ o, f_X9_holdsHouse 108 h = some ((), o) ∧ Fx [126] [] h o ∧ ∀ k, k < 6 → o.1 126 k = nI (P k) := by
  have key : ∃ b, f_X9_holdsHouse 108 h = some b ∧ (∀ k, k < 6 → b.2.1 126 k = nI (P k)) := by
    unfold f_X9_holdsHouse
    refine lp_inv (F := Nat → Int32 → Hp → Option (Unit × Hp)) (bot := fun _ _ _ => none) (G := f_X9_holdsHouse_2) (fun K i (h : Hp) => K 108 (nI i) h) 6 (fun i h' => h'.1 124 = h.1 124 ∧ ∀ k, k < i → h'.1 126 k = nI (P k)) _ ?_ ?_ 1000 0 h (by omega) (by omega) ⟨rfl, fun k hk => absurd hk (Nat.not_lt_zero k)⟩
    · rintro K i h' hi ⟨c1, c2⟩
      refine ⟨sI h' 126 i (nI (P i)), ⟨by rw [sI_row _ _ _ (by decide), c1], fun k hk => ?_⟩, ?_⟩
      · rw [sI1, if_pos rfl]
        by_cases ek : k = i
        · rw [if_pos ek, ek]
        · rw [if_neg ek]
          exact c2 k (by omega)
      · show f_X9_holdsHouse_2 K 108 (nI i) h' = _
        unfold f_X9_holdsHouse_2
        rw [if_neg (ge6 hi), if_pos (ix6 hi), if_pos (ix6 hi), cl6' hi, show h'.1 (108 + 16) i = nI (P i) by rw [show 108 + 16 = 124 from rfl, c1]; exact e1 i hi]
        simp only [lt, nI_1]
    · rintro K h' ⟨c1, c2⟩
      show ∃ b, f_X9_holdsHouse_2 K 108 (nI 6) h' = some b ∧ _
      unfold f_X9_holdsHouse_2
      rw [if_pos (show (6 : Int32) ≤ nI 6 by decide)]
      exact ⟨((), h'), rfl, c2⟩
  obtain ⟨⟨u, o⟩, e, c⟩ := key
  exact ⟨o, e, mf_X9_holdsHouse e, c⟩
/-- the first from s on, m at most -/
def ff (c : Nat → Bool) : Nat → Nat → Option Nat
  | 0, _ => none
  | m + 1, i => if c i = true then some i else ff c m (i + 1)
theorem ff_some {c : Nat → Bool} : ∀ {m s i : Nat}, s ≤ i → i < s + m → (∀ j, s ≤ j → j < i → c j = false) → c i = true → ff c m s = some i := by
  intro m
  induction m with
  | zero => intro s i h1 h2; omega
  | succ m ih =>
    intro s i h1 h2 h3 h4
    show (if c s = true then some s else ff c m (s + 1)) = _
    by_cases e : s = i
    · subst e
      rw [if_pos h4]
    · rw [if_neg (by rw [h3 s (by omega) (by omega)]; decide)]
      exact ih (by omega) (by omega) (fun j h5 h6 => h3 j (by omega) h6) h4
theorem ff_none {c : Nat → Bool} : ∀ {m s : Nat}, (∀ j, s ≤ j → j < s + m → c j = false) → ff c m s = none := by
  intro m
  induction m with
  | zero => intro s _; rfl
  | succ m ih =>
    intro s h
    show (if c s = true then some s else ff c m (s + 1)) = _
    rw [if_neg (by rw [h s (by omega) (by omega)]; decide)]
    exact ih (fun j h5 h6 => h j (by omega) (by omega))
theorem ff_lt {c : Nat → Bool} : ∀ {m s i : Nat}, ff c m s = some i → s ≤ i ∧ i < s + m := by
  intro m
  induction m with
  | zero => intro s i h; cases h
  | succ m ih =>
    intro s i h
    have h : (if c s = true then some s else ff c m (s + 1)) = some i := h
    by_cases e : c s = true
    · rw [if_pos e] at h
      cases h
      omega
    · rw [if_neg e] at h
      have := ih h
      omega
def l5 : Option Nat → Int32
  | none => -5
  | some k => nI k
/-- who is below -/
def blo (P Q : Nat → Nat) : Option Nat := ff (fun k => decide (P k < Q k)) 6 0
theorem below8 {h : Hp} {A B : Nat} {P Q : Nat → Nat} (h1 : ∀ k, k < 6 → P k ≤ 60) (h2 : ∀ k, k < 6 → Q k ≤ 60) (e1 : ∀ k, k < 6 → h.1 (A + 10) k = nI (P k)) (e2 : ∀ k, k < 6 → h.1 (B + 10) k = nI (Q k)) : f_X1_leastBelow A B h = some (bi (blo P Q), h) := by
  have key : ∃ b, f_X1_leastBelow A B h = some b ∧ b = (bi (blo P Q), h) := by
    unfold f_X1_leastBelow
    refine lp_invE (F := Nat → Nat → Int32 → Hp → Option (Int32 × Hp)) (bot := fun _ _ _ _ => none) (G := f_X1_leastBelow_2) (fun K i (_ : Unit) => K A B (nI i) h) 6 (fun i _ => ∀ j, 0 ≤ j → j < i → decide (P j < Q j) = false) _ ?_ ?_ 1000 0 () (by omega) (by omega) (fun j _ hj => absurd hj (Nat.not_lt_zero j))
    · intro K i _ hi hI
      have q1 := h1 i hi
      have q2 := h2 i hi
      show (∃ s', _ ∧ f_X1_leastBelow_2 K A B (nI i) h = _) ∨ ∃ b, f_X1_leastBelow_2 K A B (nI i) h = some b ∧ _
      unfold f_X1_leastBelow_2
      rw [if_neg (ge6 hi), if_pos (ix6 hi), if_pos (ix6 hi), cl6' hi, e1 i hi, e2 i hi]
      by_cases hlt : P i < Q i
      · right
        rw [if_neg (by rw [nI_leI (by omega) (by omega)]; omega)]
        refine ⟨_, rfl, ?_⟩
        unfold blo
        rw [ff_some (Nat.zero_le i) (by omega) hI (by simp [hlt])]
        rfl
      · left
        rw [if_pos (nI_le (by omega) (by omega))]
        refine ⟨(), fun j h5 h6 => ?_, by simp only [lt, nI_1]⟩
        by_cases ej : j = i
        · rw [ej]
          simp
          omega
        · exact hI j h5 (by omega)
    · intro K _ hI
      show ∃ b, f_X1_leastBelow_2 K A B (nI 6) h = some b ∧ _
      unfold f_X1_leastBelow_2
      rw [if_pos (show (6 : Int32) ≤ nI 6 by decide)]
      refine ⟨_, rfl, ?_⟩
      unfold blo
      rw [ff_none (fun j h5 h6 => hI j h5 (by omega))]
      rfl
  obtain ⟨b, e, rfl⟩ := key
  exact e
/-- who loses at H -/
def lossN (N : Nat → Nat) (w H : Nat) : Option Nat := if (okHb N w (H - 1) && okHb N w H) = true then blo (pS N w H) (pS N w (H - 1)) else none
theorem nI_m1 {H : Nat} (h : 1 ≤ H) : nI H - 1 = nI (H - 1) := by
  obtain ⟨m, rfl⟩ : ∃ m, H = m + 1 := ⟨H - 1, by omega⟩
  exact nI_pred m
abbrev HR2 : List Nat := [113, 114, 115, 116, 117, 118, 119, 120, 121, 122, 123, 124, 125, 126]
theorem kp9b {h h' : Hp} (f : Fx HR2 [14, 15, 24, 25] h h') : Keep h h' := Keep.ofFx f (by decide) (by decide)
theorem losesAt9 {N : Nat → Nat} {h : Hp} (b : Po h 109 N) (v : Vn N) {H : Nat} (h1 : 1 ≤ H) (hH : H ≤ 60) : ∃ o, f_X9_losesAt 108 (nI H) h = some (l5 (lossN N (N 41) H), o) ∧ Fx HR2 [14, 15, 24, 25] h o := by
  have key : ∃ o, f_X9_losesAt 108 (nI H) h = some (l5 (lossN N (N 41) H), o) := by
    obtain ⟨o1, e1, f1, c1⟩ := hs9 b v v.w (show H - 1 ≤ 60 by omega)
    unfold f_X9_losesAt lossN
    rw [wayNow9 b]
    simp only [Option.bind_some]
    rw [nI_m1 h1, e1]
    simp only [Option.bind_some]
    by_cases k1 : okHb N (N 41) (H - 1) = true
    · rw [if_pos k1, if_neg one_ne, k1, Bool.true_and]
      obtain ⟨o2, e2, f2, c2⟩ := holdsH9 (c1 k1).2.1
      have b2 : Po o2 109 N := f2.po (f1.po b (by decide)) (by decide)
      obtain ⟨o3, e3, f3, c3⟩ := hs9 b2 v v.w hH
      rw [e2]
      simp only [Option.bind_some]
      rw [wayNow9 b2]
      simp only [Option.bind_some]
      rw [e3]
      simp only [Option.bind_some]
      by_cases k2 : okHb N (N 41) H = true
      · rw [if_pos k2, if_neg one_ne]
        have p1 : ∀ k, k < 6 → pS N (N 41) H k ≤ 60 := fun k hk => by
          have := pS_le v k2 hk
          omega
        have p2 : ∀ k, k < 6 → pS N (N 41) (H - 1) k ≤ 60 := fun k hk => by
          have := pS_le v k1 hk
          omega
        have t1 := (c3 k2).2.1
        have t2 : ∀ k, k < 6 → o3.1 126 k = nI (pS N (N 41) (H - 1) k) := fun k hk => by rw [f3.1 126 (by decide) (by decide), c2 k hk]
        have : ∃ q, lp (F := Nat → Int32 → Hp → Option (Int32 × Hp)) (fun _ _ _ => none) f_X9_losesAt_38 1000 108 0 o3 = some q ∧ q = (l5 (blo (pS N (N 41) H) (pS N (N 41) (H - 1))), o3) := by
          refine lp_invE (F := Nat → Int32 → Hp → Option (Int32 × Hp)) (bot := fun _ _ _ => none) (G := f_X9_losesAt_38) (fun K i (_ : Unit) => K 108 (nI i) o3) 6 (fun i _ => ∀ j, 0 ≤ j → j < i → decide (pS N (N 41) H j < pS N (N 41) (H - 1) j) = false) _ ?_ ?_ 1000 0 () (by omega) (by omega) (fun j _ hj => absurd hj (Nat.not_lt_zero j))
          · intro K i _ hi hI
            have q1 := p1 i hi
            have q2 := p2 i hi
            show (∃ s', _ ∧ f_X9_losesAt_38 K 108 (nI i) o3 = _) ∨ ∃ b, f_X9_losesAt_38 K 108 (nI i) o3 = some b ∧ _
            unfold f_X9_losesAt_38
            rw [if_neg (ge6 hi), if_pos (ix6 hi), if_pos (ix6 hi), cl6' hi, show o3.1 (108 + 18) i = _ from t2 i hi, show o3.1 (108 + 16) i = _ from t1 i hi]
            by_cases hlt : pS N (N 41) H i < pS N (N 41) (H - 1) i
            · right
              rw [if_neg (by rw [nI_leI (by omega) (by omega)]; omega)]
              refine ⟨_, rfl, ?_⟩
              unfold blo
              rw [ff_some (Nat.zero_le i) (by omega) hI (by simp [hlt])]
              rfl
            · left
              rw [if_pos (nI_le (by omega) (by omega))]
              refine ⟨(), fun j h5 h6 => ?_, by simp only [lt, nI_1]⟩
              by_cases ej : j = i
              · rw [ej]
                simp
                omega
              · exact hI j h5 (by omega)
          · intro K _ hI
            show ∃ b, f_X9_losesAt_38 K 108 (nI 6) o3 = some b ∧ _
            unfold f_X9_losesAt_38
            rw [if_pos (show (6 : Int32) ≤ nI 6 by decide)]
            refine ⟨_, rfl, ?_⟩
            unfold blo
            rw [ff_none (fun j h5 h6 => hI j h5 (by omega))]
            rfl
        obtain ⟨q, e, rfl⟩ := this
        exact ⟨o3, by rw [e, if_pos k2]⟩
      · rw [if_neg k2, if_pos rfl, if_neg k2]
        exact ⟨o3, rfl⟩
    · rw [if_neg k1, if_pos rfl, if_neg (by rw [Bool.and_eq_true]; exact fun z => k1 z.1)]
      exact ⟨o1, rfl⟩
  obtain ⟨o, e⟩ := key
  exact ⟨o, e, mf_X9_losesAt e⟩
