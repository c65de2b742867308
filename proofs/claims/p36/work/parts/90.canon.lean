/-! ===== what the reference would hold: told by the class's own cells ===== -/
section
theorem jCan_53 (s : jMem) : jCan s 53 6 = s 0 8 ∧ jCan s 53 10 = s 6 0 ∧ jCan s 53 11 = s 6 1 ∧ jCan s 53 12 = s 21 3 := ⟨rfl, rfl, rfl, rfl⟩
theorem jCan_56 (s : jMem) {g q : Int} (q0 : 0 ≤ q) (q4 : q < 34) : vH (jCan s) g q = s (38 + 4 * g) q ∧ vL (jCan s) g q = s (39 + 4 * g) q := by
  have e1 : (34 * g + q) / 34 = g := by omega
  have e2 : (34 * g + q) % 34 = q := by omega
  constructor
  · show s (38 + 4 * ((34 * g + q) / 34)) ((34 * g + q) % 34) = _
    rw [e1, e2]
  · show s (39 + 4 * ((34 * g + q) / 34)) ((34 * g + q) % 34) = _
    rw [e1, e2]
theorem jCan_59 (s : jMem) {g k : Int} (k0 : 0 ≤ k) (k5 : k < 5) : jCan s 59 (5 * g + k) = s (40 + 4 * g) k := by
  show s (40 + 4 * ((5 * g + k) / 5)) ((5 * g + k) % 5) = _
  rw [show (5 * g + k) / 5 = g by omega, show (5 * g + k) % 5 = k by omega]
theorem iT_can {s t : jMem} (h : ∀ x : Int, x < 53 → s x = t x) (k : iT t) : iT (jCan s) := by
  obtain ⟨hW, hH, hG⟩ := k
  have c3 : jCan s 3 = t 3 := by rw [jCan_lt s (by decide), h 3 (by decide)]
  have c4 : jCan s 4 = t 4 := by rw [jCan_lt s (by decide), h 4 (by decide)]
  have c54 : jCan s 54 = t 3 := by rw [← h 3 (by decide)]; rfl
  have c55 : jCan s 55 = t 4 := by rw [← h 4 (by decide)]; rfl
  have cl : ∀ x : Int, x < 53 → jCan s x = t x := fun x hx => by rw [jCan_lt s hx, h x hx]
  have c58 : ∀ g : Int, 0 ≤ g → g < 4 → jCan s 58 g = t 58 g := fun g g0 g4 => by
    show s (37 + 4 * g) 4 = _
    rw [h _ (by omega)]; exact (hH g g0 g4).2.1
  have cH : ∀ g : Int, 0 ≤ g → g < 4 → ∀ q : Int, 0 ≤ q → q < 34 → vH (jCan s) g q = vH t g q ∧ vL (jCan s) g q = vL t g q := fun g g0 g4 q q0 q4 => by
    obtain ⟨a, b⟩ := jCan_56 s (g := g) q0 q4
    have := (hH g g0 g4).1 q q0 q4
    rw [a, b, h _ (by omega), h _ (by omega)]
    exact ⟨this.1, this.2.1⟩
  refine ⟨fun q q0 q4 => ?_, fun g g0 g4 => ?_, fun g g0 g4 => ?_⟩
  · obtain ⟨w1, w2, w3, w4, w5⟩ := hW q q0 q4
    rw [c3, c4, c54, c55, (cH 0 (by decide) (by decide) q q0 q4).1, (cH 1 (by decide) (by decide) q q0 q4).1, (cH 2 (by decide) (by decide) q q0 q4).1, (cH 3 (by decide) (by decide) q q0 q4).1, (cH 0 (by decide) (by decide) q q0 q4).2, (cH 1 (by decide) (by decide) q q0 q4).2, (cH 2 (by decide) (by decide) q q0 q4).2, (cH 3 (by decide) (by decide) q q0 q4).2]
    refine ⟨rfl, rfl, by omega, by omega, by omega⟩
  · obtain ⟨a1, a2, a3, a4, a5, a6⟩ := hH g g0 g4
    have es : jSum (vH (jCan s) g) 34 = jSum (vH t g) 34 := jSum_cg (fun i hi => (cH g g0 g4 i (by omega) (by omega)).1)
    refine ⟨fun q q0 q4 => ?_, ?_, ?_, ?_, ?_, ?_⟩
    · obtain ⟨b1, b2⟩ := cH g g0 g4 q q0 q4
      rw [cl _ (by omega), cl _ (by omega), b1, b2]
      exact a1 q q0 q4
    · rw [cl _ (by omega), c58 g g0 g4]; exact a2
    · rw [c58 g g0 g4]; exact a3
    · rw [c58 g g0 g4]; exact a4
    · rw [cl _ (by omega), es]; exact a5
    · rw [c58 g g0 g4, es]; exact a6
  · obtain ⟨g1, g2⟩ := hG g g0 g4
    obtain ⟨a1, a2, a3, a4, a5, a6⟩ := hH g g0 g4
    have e59 : ∀ k : Int, 0 ≤ k → k < t 58 g → jCan s 59 (5 * g + k) = t 59 (5 * g + k) := fun k k0 k5 => by
      rw [jCan_59 s k0 (by omega), h _ (by omega)]; exact (g1 k k0 k5).1
    refine ⟨fun k k0 k5 => ?_, fun q q0 q4 => ?_⟩
    · rw [c58 g g0 g4] at k5
      rw [e59 k k0 k5, cl _ (by omega)]
      exact g1 k k0 k5
    · rw [(cH g g0 g4 q q0 q4).2, c58 g g0 g4, g2 q q0 q4]
      exact jSum_cg (fun i hi => by rw [e59 i (by omega) (by omega)])
theorem iJ_can {s t : jMem} (h : ∀ x : Int, x < 53 → s x = t x) (k : iJ t) : iJ (jCan s) := by
  obtain ⟨h1, h2, h3, h4, h5, h6⟩ := k
  have cl : ∀ x : Int, x < 53 → jCan s x = t x := fun x hx => by rw [jCan_lt s hx, h x hx]
  obtain ⟨d1, d2, d3, d4⟩ := jCan_53 s
  refine ⟨fun r r0 r6 => ?_, ?_, ?_, ?_, iT_can h h5, fun x x0 x1 => ?_⟩
  · obtain ⟨a1, a2, a3, a4, a5, a6, a7, a8⟩ := h1 r r0 r6
    have e60 : jCan s 60 r = t (25 + 2 * r) 1 := by rw [← h _ (by omega)]; rfl
    have e61 : jCan s 61 r = t (25 + 2 * r) 2 := by rw [← h _ (by omega)]; rfl
    rw [cl (25 + 2 * r) (by omega), cl (26 + 2 * r) (by omega), e60, e61]
    refine ⟨rfl, rfl, by omega, by omega, by omega, by omega, fun z => by rw [a2]; exact a7 (by omega), fun i i0 i4 => ?_⟩
    show t (26 + 2 * r) i = s (26 + 2 * ((40 * r + i) / 40)) ((40 * r + i) % 40)
    rw [show (40 * r + i) / 40 = r by omega, show (40 * r + i) % 40 = i by omega, h _ (by omega)]
  · obtain ⟨a1, a2, a3, a4, a5, a6⟩ := h2
    unfold iF
    rw [cl 6 (by decide), d2, d3, h 6 (by decide)]
    exact ⟨rfl, rfl, by omega, by omega, by omega, by omega⟩
  · obtain ⟨a1, a2, a3⟩ := h3
    unfold iS
    rw [cl 0 (by decide), d1, h 0 (by decide)]
    exact ⟨rfl, by omega, by omega⟩
  · obtain ⟨a1, a2, a3, a4⟩ := h4
    have e63 : jCan s 63 = t 22 := by rw [← h 22 (by decide)]; rfl
    have e64 : jCan s 64 = t 23 := by rw [← h 23 (by decide)]; rfl
    have e65 : jCan s 65 = t 24 := by rw [← h 24 (by decide)]; rfl
    unfold iU
    rw [cl 21 (by decide), cl 22 (by decide), cl 23 (by decide), cl 24 (by decide), d4, h 21 (by decide), e63, e64, e65]
    refine ⟨rfl, by omega, by omega, fun i i0 i1 => ?_⟩
    have := a4 i i0 (by omega)
    refine ⟨rfl, rfl, rfl, by omega, by omega, by omega, by omega, by omega, by omega⟩
  · rw [cl 14 (by decide), cl 15 (by decide)]
    exact h6 x x0 x1
end
