/-! the plan begun -/
def BS : Type := (Nat → Nat) × (Nat → Nat) × Nat
/-- a cell gets as many as both have left -/
def ist (w p : Nat) (t : BS) : BS := (up t.1 (6 * w + p) (min t.2.2 (t.2.1 p)), up t.2.1 p (t.2.1 p - min t.2.2 (t.2.1 p)), t.2.2 - min t.2.2 (t.2.1 p))
def wrd (N : Nat → Nat) (w : Nat) (t : (Nat → Nat) × (Nat → Nat)) : (Nat → Nat) × (Nat → Nat) := ((fu (ist w) 6 (t.1, t.2, N (24 + w))).1, (fu (ist w) 6 (t.1, t.2, N (24 + w))).2.1)
def bgn (N D : Nat → Nat) (n : Nat) : (Nat → Nat) × (Nat → Nat) := fu (wrd N) n (fun _ => 0, D)
def bgi (N D : Nat → Nat) (w p : Nat) : BS := fu (ist w) p ((bgn N D w).1, (bgn N D w).2, N (24 + w))
theorem bgi_s (N D : Nat → Nat) (w p : Nat) : bgi N D w (p + 1) = ist w p (bgi N D w p) := rfl
theorem bgn_s (N D : Nat → Nat) (w : Nat) : bgn N D (w + 1) = ((bgi N D w 6).1, (bgi N D w 6).2.1) := rfl
/-- columns add up; what is not yet begun is 0 -/
theorem bgi_inv {N D : Nat → Nat} {w : Nat} (h : ∀ p, p < 6 → (bgn N D w).2 p + sF (fun t => (bgn N D w).1 (6 * t + p)) w = D p) (hu : ∀ c, 6 * w ≤ c → (bgn N D w).1 c = 0) : ∀ p, p ≤ 6 → (∀ q, q < 6 → (bgi N D w p).2.1 q + sF (fun t => (bgi N D w p).1 (6 * t + q)) (if q < p then w + 1 else w) = D q) ∧ (∀ c, 6 * w + p ≤ c → (bgi N D w p).1 c = 0) ∧ (∀ c, c < 6 * w → (bgi N D w p).1 c = (bgn N D w).1 c) ∧ (bgi N D w p).2.2 ≤ N (24 + w) := by
  intro p
  induction p with
  | zero => exact fun _ => ⟨fun q hq => by rw [if_neg (Nat.not_lt_zero q)]; exact h q hq, fun c hc => hu c (by omega), fun _ _ => rfl, Nat.le_refl _⟩
  | succ p ih =>
    intro hp
    obtain ⟨a1, a2, a3, a4⟩ := ih (by omega)
    rw [bgi_s]
    generalize bgi N D w p = t at a1 a2 a3 a4
    unfold ist
    refine ⟨fun q hq => ?_, fun c hc => ?_, fun c hc => ?_, ?_⟩
    · show up t.2.1 p _ q + sF (fun x => up t.1 (6 * w + p) _ (6 * x + q)) (if q < p + 1 then w + 1 else w) = D q
      have sw : ∀ n, n ≤ w → sF (fun x => up t.1 (6 * w + p) (min t.2.2 (t.2.1 p)) (6 * x + q)) n = sF (fun x => t.1 (6 * x + q)) n := fun n hn => sF_congr (fun x hx => up_ne _ _ (by omega))
      have b := a1 q hq
      by_cases e : q = p
      · subst e
        rw [if_neg (Nat.lt_irrefl q)] at b
        rw [if_pos (by omega), up_self]
        show _ + (sF (fun x => up t.1 (6 * w + q) (min t.2.2 (t.2.1 q)) (6 * x + q)) w + up t.1 (6 * w + q) (min t.2.2 (t.2.1 q)) (6 * w + q)) = _
        rw [sw w (Nat.le_refl w), up_self]
        have : min t.2.2 (t.2.1 q) ≤ t.2.1 q := Nat.min_le_right _ _
        omega
      · rw [up_ne _ _ e]
        by_cases l : q < p
        · rw [if_pos l] at b
          rw [if_pos (by omega)]
          have : sF (fun x => up t.1 (6 * w + p) (min t.2.2 (t.2.1 p)) (6 * x + q)) (w + 1) = sF (fun x => t.1 (6 * x + q)) (w + 1) := sF_congr (fun x hx => up_ne _ _ (by omega))
          rw [this]
          exact b
        · rw [if_neg l] at b
          rw [if_neg (by omega), sw w (Nat.le_refl w)]
          exact b
    · show up t.1 (6 * w + p) _ c = 0
      rw [up_ne _ _ (by omega)]
      exact a2 c (by omega)
    · show up t.1 (6 * w + p) _ c = _
      rw [up_ne _ _ (by omega)]
      exact a3 c hc
    · show t.2.2 - _ ≤ _
      omega
theorem bgn_inv {N D : Nat → Nat} : ∀ w, w ≤ 4 → (∀ p, p < 6 → (bgn N D w).2 p + sF (fun t => (bgn N D w).1 (6 * t + p)) w = D p) ∧ ∀ c, 6 * w ≤ c → (bgn N D w).1 c = 0 := by
  intro w
  induction w with
  | zero => exact fun _ => ⟨fun p hp => rfl, fun c hc => rfl⟩
  | succ w ih =>
    intro hw
    obtain ⟨a1, a2⟩ := ih (by omega)
    obtain ⟨b1, b2, b3, b4⟩ := bgi_inv a1 a2 6 (Nat.le_refl 6)
    rw [bgn_s]
    refine ⟨fun p hp => ?_, fun c hc => b2 c (by omega)⟩
    have := b1 p hp
    rw [if_pos hp] at this
    exact this
theorem bgi_all {N D : Nat → Nat} {w p : Nat} (hw : w < 4) (hp : p ≤ 6) : (∀ q, q < 6 → (bgi N D w p).2.1 q + sF (fun t => (bgi N D w p).1 (6 * t + q)) (if q < p then w + 1 else w) = D q) ∧ (∀ c, 6 * w + p ≤ c → (bgi N D w p).1 c = 0) ∧ (∀ c, c < 6 * w → (bgi N D w p).1 c = (bgn N D w).1 c) ∧ (bgi N D w p).2.2 ≤ N (24 + w) := bgi_inv (bgn_inv w (by omega)).1 (bgn_inv w (by omega)).2 p hp
/-- how the cells begin -/
def s0N (N D : Nat → Nat) : Nat → Nat := (bgn N D 4).1
theorem bgi_cell {N D : Nat → Nat} {Qw Qp : Nat → Bool} (hW : ∀ w, w < 4 → Qw w = false → N (24 + w) = 0) (hP : ∀ p, p < 6 → Qp p = false → D p = 0) (hB : ∀ w, w < 4 → N (24 + w) ≤ 30) : ∀ w, w ≤ 4 → (∀ x p, x < 4 → p < 6 → (Qw x = false ∨ Qp p = false) → (bgn N D w).1 (6 * x + p) = 0) ∧ ∀ c, (bgn N D w).1 c ≤ 30 := by
  intro w
  induction w with
  | zero => exact fun _ => ⟨fun _ _ _ _ _ => rfl, fun _ => Nat.zero_le _⟩
  | succ w ih =>
    intro hw
    obtain ⟨a1, a2⟩ := ih (by omega)
    have key : ∀ p, p ≤ 6 → (∀ x q, x < 4 → q < 6 → (Qw x = false ∨ Qp q = false) → (bgi N D w p).1 (6 * x + q) = 0) ∧ ∀ c, (bgi N D w p).1 c ≤ 30 := by
      intro p
      induction p with
      | zero => exact fun _ => ⟨a1, a2⟩
      | succ p ih2 =>
        intro hp
        obtain ⟨b1, b2⟩ := ih2 (by omega)
        obtain ⟨d1, d2, d3, d4⟩ := bgi_all (N := N) (D := D) (w := w) (p := p) (by omega) (by omega)
        rw [bgi_s]
        generalize bgi N D w p = t at b1 b2 d1 d4
        have m1 : min t.2.2 (t.2.1 p) ≤ t.2.2 := Nat.min_le_left _ _
        have m2 : min t.2.2 (t.2.1 p) ≤ t.2.1 p := Nat.min_le_right _ _
        have e1 := d1 p (by omega)
        have hb := hB w (by omega)
        unfold ist
        refine ⟨fun x q hx hq h => ?_, fun c => ?_⟩
        · show up t.1 (6 * w + p) _ (6 * x + q) = 0
          by_cases e : 6 * x + q = 6 * w + p
          · rw [e, up_self]
            have ex : x = w := by omega
            have eq : q = p := by omega
            rcases h with h | h
            · have := hW x hx h
              rw [ex] at this
              omega
            · have := hP q hq h
              rw [eq] at this
              omega
          · rw [up_ne _ _ e]
            exact b1 x q hx hq h
        · show up t.1 (6 * w + p) _ c ≤ 30
          by_cases e : c = 6 * w + p
          · rw [e, up_self]
            omega
          · rw [up_ne _ _ e]
            exact b2 c
    rw [bgn_s]
    exact key 6 (Nat.le_refl 6)
theorem cellw (h : Hp) (w p : Nat) : f_X8_cellOf (nI w) (nI p) h = some (nI (6 * w + p), h) := by
  rw [cell8, Nat.mul_comm]
theorem min31 {a b : Nat} (ha : a < 2 ^ 31) (hb : b < 2 ^ 31) : (if nI b < nI a then nI b else nI a) = nI (min a b) := by
  rw [minI hb ha, Nat.min_comm]
theorem begin8 {N D : Nat → Nat} (v : Vn N) (hD : ∀ p, p < 6 → D p ≤ 60) {h : Hp} (a : Pc h 1 N) (e77 : ∀ p, p < 6 → h.1 77 p = nI (D p)) : ∃ b, f_X2_begin 56 1 h = some b ∧ ((∀ r, r ≠ 57 → b.2.1 r = h.1 r) ∧ ∀ c, c < 24 → b.2.1 57 c = nI (s0N N D c)) := by
  unfold f_X2_begin
  refine lp_inv (F := Nat → Nat → Int32 → Hp → Option (Unit × Hp)) (bot := fun _ _ _ _ => none) (G := f_X2_begin_2) (fun K i (h : Hp) => K 56 1 (nI i) h) 4 (fun i h' => (∀ r, r ≠ 57 → h'.1 r = h.1 r) ∧ ∀ c, c < 6 * i → h'.1 57 c = nI ((bgn N D i).1 c)) _ ?_ ?_ 1000 0 h (by omega) (by omega) ⟨fun _ _ => rfl, fun c hc => absurd hc (Nat.not_lt_zero c)⟩
  · rintro K w h1 hw ⟨c1, c2⟩
    have a1 : Pc h1 1 N := a.keep (fun j hj => c1 _ (by omega))
    have hws := ws_le v hw
    show ∃ s', _ ∧ f_X2_begin_2 K 56 1 (nI w) h1 = _
    unfold f_X2_begin_2
    rw [if_neg (show ¬ (4 : Int32) ≤ nI w from nI_ge (b := 4) hw (by decide)), if_pos (ix4 hw), nI_clamp (by omega)]
    dsimp only [lt]
    rw [show h1.1 (1 + 2) w = _ from wseats8 a1 hw]
    have inner := lp_invK (F := Nat → Nat → Int32 → Int32 → Int32 → Hp → Option (Unit × Hp)) (bot := fun _ _ _ _ _ _ => none) (G := f_X2_begin_17 K) (fun K i (h : Int32 × Hp) => K 56 1 (nI w) h.1 (nI i) h.2) 6 (fun p x => (∀ r, r ≠ 57 → x.2.1 r = h.1 r) ∧ x.1 = nI (bgi N D w p).2.2 ∧ ∀ c, c < 6 * w + p → x.2.1 57 c = nI ((bgi N D w p).1 c)) (fun x => K 56 1 (nI (w + 1)) x.2) ?_ ?_ 1000 0 (nI (N (24 + w)), h1) (by omega) (by omega) ⟨c1, rfl, fun c hc => c2 c (by omega)⟩
    · obtain ⟨⟨x, h2⟩, ⟨i1, i2, i3⟩, i4⟩ := inner
      exact ⟨h2, ⟨i1, fun c hc => by rw [bgn_s]; exact i3 c (by omega)⟩, i4⟩
    · rintro K2 p ⟨x, h2⟩ hp ⟨d1, d2, d3⟩
      dsimp only at d1 d2 d3
      subst d2
      obtain ⟨b1, b2, b3, b4⟩ := bgi_all (N := N) (D := D) (w := w) (p := p) hw (by omega)
      have bp := b1 p hp
      rw [if_neg (Nat.lt_irrefl p)] at bp
      have hDp := hD p hp
      rw [bgi_s]
      generalize bgi N D w p = t at b1 b2 b3 b4 bp d3
      show ∃ s' : Int32 × Hp, _ ∧ f_X2_begin_17 K K2 56 1 (nI w) (nI t.2.2) (nI p) h2 = K2 56 1 (nI w) s'.1 (nI (p + 1)) s'.2
      unfold f_X2_begin_17
      rw [if_neg (ge6 hp), if_pos (ix6 hp), cl6' hp]
      dsimp only [lt]
      rw [show h2.1 (56 + 11 + 10) p = nI (D p) by rw [d1 (56 + 11 + 10) (by decide)]; exact e77 p hp]
      have mono : ∀ n, n ≤ w → sF (fun x => t.1 (6 * x + p)) n ≤ D p := fun n hn => by
        have : ∀ m, sF (fun x => t.1 (6 * x + p)) n ≤ sF (fun x => t.1 (6 * x + p)) (n + m) := by
          intro m
          induction m with
          | zero => exact Nat.le_refl _
          | succ m ih =>
            show _ ≤ sF (fun x => t.1 (6 * x + p)) (n + m) + _
            omega
        have := this (w - n)
        rw [show n + (w - n) = w by omega] at this
        omega
      have in2 := lp_invK (F := Nat → Nat → Int32 → Int32 → Int32 → Int32 → Int32 → Hp → Option (Unit × Hp)) (bot := fun _ _ _ _ _ _ _ _ => none) (G := f_X2_begin_39 K K2) (fun K i (x : Int32) => K 56 1 (nI w) (nI t.2.2) (nI p) x (nI i) h2) w (fun i x => x = nI (D p - sF (fun x => t.1 (6 * x + p)) i)) (fun _ => K2 56 1 (nI w) (nI (t.2.2 - min t.2.2 (t.2.1 p))) (nI (p + 1)) (sI h2 57 (6 * w + p) (nI (min t.2.2 (t.2.1 p))))) ?_ ?_ 1000 0 (nI (D p)) (by omega) (by omega) rfl
      · obtain ⟨x, -, i4⟩ := in2
        refine ⟨(nI (t.2.2 - min t.2.2 (t.2.1 p)), sI h2 57 (6 * w + p) (nI (min t.2.2 (t.2.1 p)))), ⟨fun r hr => by rw [sI_row _ _ _ hr]; exact d1 r hr, rfl, fun c hc => ?_⟩, i4⟩
        show (sI h2 57 (6 * w + p) (nI (min t.2.2 (t.2.1 p)))).1 57 c = nI (up t.1 (6 * w + p) (min t.2.2 (t.2.1 p)) c)
        rw [sI1, if_pos rfl]
        by_cases e : c = 6 * w + p
        · rw [if_pos e, e, up_self]
        · rw [if_neg e, up_ne _ _ e]
          exact d3 c (by omega)
      · rintro K3 i x hi rfl
        have m1 := mono (i + 1) (by omega)
        have m1' : sF (fun x => t.1 (6 * x + p)) (i + 1) = sF (fun x => t.1 (6 * x + p)) i + t.1 (6 * i + p) := rfl
        refine ⟨_, rfl, ?_⟩
        show f_X2_begin_39 K K2 K3 56 1 (nI w) (nI t.2.2) (nI p) (nI (D p - sF (fun x => t.1 (6 * x + p)) i)) (nI i) h2 = _
        unfold f_X2_begin_39
        rw [if_neg (nI_ge hi (by omega)), cellw, Option.bind_some]
        dsimp only [lt]
        rw [if_pos (ix24 (by omega)), nI_clamp (by omega), show h2.1 (56 + 1) (6 * i + p) = _ from d3 _ (by omega), pk_sub (by omega), nI_1, show D p - sF (fun x => t.1 (6 * x + p)) i - t.1 (6 * i + p) = D p - sF (fun x => t.1 (6 * x + p)) (i + 1) by omega]
      · rintro K3 x rfl
        have el : D p - sF (fun x => t.1 (6 * x + p)) w = t.2.1 p := by omega
        have hm : min t.2.2 (t.2.1 p) ≤ t.2.2 := Nat.min_le_left _ _
        show f_X2_begin_39 K K2 K3 56 1 (nI w) (nI t.2.2) (nI p) (nI (D p - sF (fun x => t.1 (6 * x + p)) w)) (nI w) h2 = _
        unfold f_X2_begin_39
        rw [if_pos (nI_le (Nat.le_refl w) (by omega)), cellw, Option.bind_some, el, min31 (by omega) (by omega)]
        dsimp only [lt]
        rw [if_pos (ix24 (by omega)), nI_clamp (by omega), cellw, Option.bind_some]
        dsimp only
        rw [if_pos (ix24 (by omega)), nI_clamp (by omega), show (sI h2 (56 + 1) (6 * w + p) (nI (min t.2.2 (t.2.1 p)))).1 (56 + 1) (6 * w + p) = nI (min t.2.2 (t.2.1 p)) by rw [sI1, if_pos rfl, if_pos rfl], pk_sub hm, nI_1]
    · rintro K2 ⟨x, h2⟩ ⟨d1, d2, d3⟩
      show f_X2_begin_17 K K2 56 1 (nI w) x (nI 6) h2 = _
      unfold f_X2_begin_17
      rw [if_pos (show (6 : Int32) ≤ nI 6 by decide)]
      dsimp only [lt]
      rw [nI_1]
  · rintro K h1 ⟨c1, c2⟩
    show ∃ b, f_X2_begin_2 K 56 1 (nI 4) h1 = some b ∧ _
    unfold f_X2_begin_2
    rw [if_pos (show (4 : Int32) ≤ nI 4 by decide)]
    exact ⟨_, rfl, c1, fun c hc => c2 c (by omega)⟩
