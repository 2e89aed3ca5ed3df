-- how many tones lie above x never grows with x
/-- normalised: V is v with the sign that was last seen, R is r with it -/
def cN (w : Nat → Int) (x : Int) : Nat → Int → Int → Nat
  | 0, _, _ => 0
  | i + 1, R, V =>
    if 20 * x * V + 400 * R < 0 then 1 + cN w x i (-(20 * x * R - (400 - x * x) * V) * w (i - 1)) (-(20 * x * V + 400 * R) * w i)
    else cN w x i ((20 * x * R - (400 - x * x) * V) * w (i - 1)) ((20 * x * V + 400 * R) * w i)
theorem st_id (x R V : Int) : 20 * (20 * x * R - (400 - x * x) * V) = x * (20 * x * V + 400 * R) - 8000 * V := by grind
/-- behind a step with V' = 0 -/
theorem st_z {x R V : Int} (hV : 0 ≤ V) (hR : V = 0 → R < 0) (h : 20 * x * V + 400 * R = 0) : 20 * x * R - (400 - x * x) * V < 0 := by
  have h1 := st_id x R V
  rw [h] at h1
  have h2 : V ≠ 0 := by
    intro e
    have := hR e
    rw [e] at h
    simp at h
    omega
  simp at h1
  omega
theorem st_cross {x y Rx Vx Ry Vy : Int} (hxy : x ≤ y) (hVx : 0 ≤ Vx) (hVy : 0 ≤ Vy) (h : Rx * Vy ≤ Ry * Vx) : (20 * x * Vx + 400 * Rx) * Vy ≤ (20 * y * Vy + 400 * Ry) * Vx := by
  have h1 : 0 ≤ (y - x) * (Vx * Vy) := Int.mul_nonneg (by omega) (Int.mul_nonneg hVx hVy)
  have e1 : (20 * y * Vy + 400 * Ry) * Vx - (20 * x * Vx + 400 * Rx) * Vy = 20 * ((y - x) * (Vx * Vy)) + 400 * (Ry * Vx - Rx * Vy) := by grind
  omega
/-- the order behind a step, from what the new V and the old cross give -/
theorem st_new {x y Rx Vx Ry Vy : Int} (hxy : x ≤ y) (hp : 0 ≤ (20 * x * Vx + 400 * Rx) * (20 * y * Vy + 400 * Ry)) (hc : (20 * x * Vx + 400 * Rx) * Vy ≤ (20 * y * Vy + 400 * Ry) * Vx) :
    (20 * x * Rx - (400 - x * x) * Vx) * (20 * y * Vy + 400 * Ry) ≤ (20 * y * Ry - (400 - y * y) * Vy) * (20 * x * Vx + 400 * Rx) := by
  have h1 := st_id x Rx Vx
  have h2 := st_id y Ry Vy
  generalize hA : 20 * x * Vx + 400 * Rx = A at *
  generalize hB : 20 * y * Vy + 400 * Ry = B at *
  generalize hC : 20 * x * Rx - (400 - x * x) * Vx = C at *
  generalize hD : 20 * y * Ry - (400 - y * y) * Vy = D at *
  have h3 : 0 ≤ (y - x) * (A * B) := Int.mul_nonneg (by omega) hp
  have e1 : 20 * (D * A - C * B) = (y - x) * (A * B) + 8000 * (B * Vx - A * Vy) := by
    have : 20 * (D * A - C * B) = (20 * D) * A - (20 * C) * B := by grind
    rw [this, h1, h2]
    grind
  omega
theorem st_newF {x y Rx Vx Ry Vy : Int} (hxy : x ≤ y) (hVx : 0 ≤ Vx) (hVy : 0 ≤ Vy) (ha : 0 ≤ 20 * x * Vx + 400 * Rx) (hb : 20 * y * Vy + 400 * Ry < 0) :
    (20 * x * Rx - (400 - x * x) * Vx) * (-(20 * y * Vy + 400 * Ry)) ≤ (-(20 * y * Ry - (400 - y * y) * Vy)) * (20 * x * Vx + 400 * Rx) := by
  have h1 := st_id x Rx Vx
  have h2 := st_id y Ry Vy
  generalize hA : 20 * x * Vx + 400 * Rx = A at *
  generalize hB : 20 * y * Vy + 400 * Ry = B at *
  generalize hC : 20 * x * Rx - (400 - x * x) * Vx = C at *
  generalize hD : 20 * y * Ry - (400 - y * y) * Vy = D at *
  have h3 : 0 ≤ (y - x) * (A * (-B)) := Int.mul_nonneg (by omega) (Int.mul_nonneg ha (by omega))
  have h4 : 0 ≤ Vy * A := Int.mul_nonneg hVy ha
  have h5 : 0 ≤ Vx * (-B) := Int.mul_nonneg hVx (by omega)
  have e1 : 20 * ((-D) * A - C * (-B)) = (y - x) * (A * (-B)) + 8000 * (Vy * A + Vx * (-B)) := by
    have : 20 * ((-D) * A - C * (-B)) = -((20 * D) * A) + (20 * C) * B := by grind
    rw [this, h1, h2]
    grind
  omega
theorem st_scale {a b c d p q : Int} (hp : 0 < p) (hq : 0 < q) (h : a * b ≤ c * d) : (a * p) * (b * q) ≤ (c * p) * (d * q) := by
  have e1 : (a * p) * (b * q) = (a * b) * (p * q) := by grind
  have e2 : (c * p) * (d * q) = (c * d) * (p * q) := by grind
  rw [e1, e2]
  exact Int.mul_le_mul_of_nonneg_right h (Int.le_of_lt (Int.mul_pos hp hq))
theorem st_okZ {R V p q : Int} (hp : 0 < p) (hq : 0 < q) (hR : V = 0 → R < 0) : V * q = 0 → R * p < 0 := by
  intro h
  rcases Int.mul_eq_zero.mp h with h1 | h1
  · exact Int.mul_neg_of_neg_of_pos (hR h1) hp
  · omega
set_option maxHeartbeats 1000000 in
theorem cN_anti (w : Nat → Int) (hw : ∀ i, 0 < w i) {x y : Int} (hxy : x ≤ y) : ∀ (i nx ny : Nat) (Rx Vx Ry Vy : Int), 0 ≤ Vx → (Vx = 0 → Rx < 0) → 0 ≤ Vy → (Vy = 0 → Ry < 0) → (ny < nx ∨ (nx = ny ∧ Rx * Vy ≤ Ry * Vx)) → ny + cN w y i Ry Vy ≤ nx + cN w x i Rx Vx := by
  intro i
  induction i with
  | zero => intro nx ny Rx Vx Ry Vy _ _ _ _ h; simp only [cN]; omega
  | succ i ih =>
    intro nx ny Rx Vx Ry Vy hVx hRx hVy hRy h
    have hp := hw (i - 1)
    have hq := hw i
    -- the states behind the step
    have zx : 20 * x * Vx + 400 * Rx = 0 → 20 * x * Rx - (400 - x * x) * Vx < 0 := st_z hVx hRx
    have zy : 20 * y * Vy + 400 * Ry = 0 → 20 * y * Ry - (400 - y * y) * Vy < 0 := st_z hVy hRy
    have nV : ∀ {V : Int}, 0 ≤ V → 0 ≤ V * w i := fun h => Int.mul_nonneg h (by omega)
    simp only [cN]
    by_cases ax : 20 * x * Vx + 400 * Rx < 0
    · rw [if_pos ax]
      by_cases ay : 20 * y * Vy + 400 * Ry < 0
      · rw [if_pos ay, ← Nat.add_assoc, ← Nat.add_assoc]
        refine ih (nx + 1) (ny + 1) _ _ _ _ (nV (by omega)) (st_okZ hp hq (fun e => by omega)) (nV (by omega)) (st_okZ hp hq (fun e => by omega)) ?_
        rcases h with h | ⟨h1, h2⟩
        · exact Or.inl (by omega)
        · refine Or.inr ⟨by omega, st_scale hp hq ?_⟩
          have hc := st_cross hxy hVx hVy h2
          have hn := st_new hxy (Int.mul_nonneg_of_nonpos_of_nonpos (by omega) (by omega)) hc
          have e1 : ∀ a b : Int, (-a) * (-b) = a * b := fun a b => Int.neg_mul_neg a b
          rw [e1, e1]
          exact hn
      · rw [if_neg ay, ← Nat.add_assoc]
        refine ih (nx + 1) ny _ _ _ _ (nV (by omega)) (st_okZ hp hq (fun e => by omega)) (nV (by omega)) (st_okZ hp hq zy) ?_
        rcases h with h | ⟨h1, h2⟩ <;> exact Or.inl (by omega)
    · rw [if_neg ax]
      by_cases ay : 20 * y * Vy + 400 * Ry < 0
      · rw [if_pos ay, ← Nat.add_assoc]
        refine ih nx (ny + 1) _ _ _ _ (nV (by omega)) (st_okZ hp hq zx) (nV (by omega)) (st_okZ hp hq (fun e => by omega)) ?_
        rcases h with h | ⟨h1, h2⟩
        · by_cases hs : nx = ny + 1
          · exact Or.inr ⟨hs, st_scale hp hq (st_newF hxy hVx hVy (by omega) ay)⟩
          · exact Or.inl (by omega)
        · -- impossible
          exfalso
          have hc := st_cross hxy hVx hVy h2
          have h3 : 0 ≤ (20 * x * Vx + 400 * Rx) * Vy := Int.mul_nonneg (by omega) hVy
          have h4 : (20 * y * Vy + 400 * Ry) * Vx ≤ 0 := Int.mul_nonpos_of_nonpos_of_nonneg (by omega) hVx
          have h5 : (20 * y * Vy + 400 * Ry) * Vx = 0 := by omega
          rcases Int.mul_eq_zero.mp h5 with h6 | h6
          · omega
          · have h7 := hRx h6
            rw [h6] at ax
            simp at ax
            omega
      · rw [if_neg ay]
        refine ih nx ny _ _ _ _ (nV (by omega)) (st_okZ hp hq zx) (nV (by omega)) (st_okZ hp hq zy) ?_
        rcases h with h | ⟨h1, h2⟩
        · exact Or.inl h
        · have hc := st_cross hxy hVx hVy h2
          exact Or.inr ⟨h1, st_scale hp hq (st_new hxy (Int.mul_nonneg (by omega) (by omega)) hc)⟩
/-- from the start: r = 0, v = 1 -/
theorem cN_mono (w : Nat → Int) (hw : ∀ i, 0 < w i) {x y : Int} (hxy : x ≤ y) (i : Nat) : cN w y i 0 1 ≤ cN w x i 0 1 := by
  have := cN_anti w hw hxy i 0 0 0 1 0 1 (by omega) (by omega) (by omega) (by omega) (Or.inr ⟨rfl, by omega⟩)
  omega
