/-! ===== odds: done is a lack of none: groups counted ===== -/
section
/-- runs and threes, counted by where they begin -/
def yDc (w : Nat) (H A T : Int → Int) : Prop := (∀ q : Int, 0 ≤ A q ∧ 0 ≤ T q ∧ (A q ≠ 0 → 0 ≤ q ∧ q < 27 ∧ q % 9 ≤ 6) ∧ (T q ≠ 0 → 0 ≤ q ∧ q < 34)) ∧ (∀ q : Int, 0 ≤ q → q < 34 → H q = A q + A (q - 1) + A (q - 2) + 3 * T q) ∧ jSum A 34 + jSum T 34 = w
theorem yDc_cg {w : Nat} {H K A T : Int → Int} (h : ∀ q : Int, 0 ≤ q → q < 34 → H q = K q) (k : yDc w H A T) : yDc w K A T := ⟨k.1, fun q q0 q4 => by rw [← h q q0 q4]; exact k.2.1 q q0 q4, k.2.2⟩
theorem yV_all : ∀ (w : Nat) (H : Int → Int) (f rf : Int) (A T : Int → Int), yDc w H A T → 0 ≤ f → f ≤ 34 → (∀ q : Int, 0 ≤ q → q < f → H q = 0) → T rf = 0 → yV w H f rf ≠ [] := by
  intro w
  induction w with
  | zero => intro H f rf A T _ _ _ _ _ h; simp [yV] at h
  | succ w ih =>
    intro H f rf A T ⟨d1, d2, d3⟩ f0 f4 hz hrf
    obtain ⟨s, hs⟩ : ∃ s, s = yFs H f := ⟨_, rfl⟩
    obtain ⟨p1, p2, p3, p4⟩ := yFs_p H f4
    rw [← hs] at p1 p2 p3 p4
    have zero : ∀ q : Int, 0 ≤ q → q < s → H q = 0 := fun q q0 q1 => by
      by_cases e : q < f
      · exact hz q q0 e
      · exact p3 q (by omega) q1
    have az : ∀ q : Int, q < s → A q = 0 ∧ T q = 0 := fun q q1 => by
      have a := d1 q
      by_cases q0 : 0 ≤ q
      · have e := d2 q q0 (by omega)
        rw [zero q q0 q1] at e
        have b := d1 (q - 1)
        have c := d1 (q - 2)
        omega
      · constructor
        · by_cases z : A q = 0
          · exact z
          · have := a.2.2.1 z; omega
        · by_cases z : T q = 0
          · exact z
          · have := a.2.2.2 z; omega
    have s4 : s < 34 := by
      by_cases z : s < 34
      · exact z
      · exfalso
        have z1 : jSum A 34 = 0 := jSum_zero (fun i hi => (az i (by omega)).1)
        have z2 : jSum T 34 = 0 := jSum_zero (fun i hi => (az i (by omega)).2)
        omega
    have es := d2 s (by omega) s4
    rw [(az (s - 1) (by omega)).1, (az (s - 2) (by omega)).1] at es
    have ne := p4 s4
    have ds := d1 s
    rw [yV_s w H f rf hs s4]
    intro hnil
    rw [List.append_eq_nil_iff] at hnil
    obtain ⟨n1, n2⟩ := hnil
    by_cases t1 : 1 ≤ T s
    · have srf : s ≠ rf := fun e => by rw [e] at t1; omega
      rw [if_pos ⟨by omega, srf⟩, List.map_eq_nil_iff] at n1
      refine ih (yT H s) s (-1) A (yUp T s (T s + -1)) ⟨fun q => ?_, fun q q0 q4 => ?_, ?_⟩ (by omega) p2 (fun q q0 q1 => ?_) ?_ n1
      · have a := d1 q
        by_cases e : q = s
        · subst e; rw [yUp_at]; exact ⟨a.1, by omega, a.2.2.1, fun _ => ⟨by omega, s4⟩⟩
        · rw [yUp_o e]; exact a
      · have e := d2 q q0 q4
        unfold yT
        by_cases eq : q = s
        · subst eq; rw [if_pos rfl, yUp_at]; omega
        · rw [if_neg eq, yUp_o eq]; exact e
      · rw [yUp_sum (by omega) s4]; omega
      · unfold yT
        rw [if_neg (by omega)]
        exact zero q q0 q1
      · rw [yUp_o (by omega)]
        by_cases z : T (-1) = 0
        · exact z
        · have := (d1 (-1)).2.2.2 z; omega
    · have a1 : 1 ≤ A s := by omega
      have sr := ds.2.2.1 (by omega)
      have e1 := d2 (s + 1) (by omega) (by omega)
      have e2 := d2 (s + 2) (by omega) (by omega)
      rw [show s + 1 - 1 = s by omega] at e1
      rw [show s + 2 - 2 = s by omega] at e2
      have b1 := d1 (s + 1)
      have b2 := d1 (s + 1 - 2)
      have b3 := d1 (s + 2)
      have b4 := d1 (s + 2 - 1)
      have cr : yCr H s := ⟨⟨sr.2.1, sr.2.2⟩, by omega, by omega⟩
      rw [if_pos cr, List.map_eq_nil_iff] at n2
      refine ih (yR H s) s s (yUp A s (A s + -1)) T ⟨fun q => ?_, fun q q0 q4 => ?_, ?_⟩ (by omega) p2 (fun q q0 q1 => ?_) (by omega) n2
      · have a := d1 q
        by_cases e : q = s
        · subst e; rw [yUp_at]; exact ⟨by omega, a.2.1, fun _ => sr, a.2.2.2⟩
        · rw [yUp_o e]; exact a
      · have e := d2 q q0 q4
        unfold yR
        by_cases x0 : q = s
        · subst x0; rw [if_pos (Or.inl rfl), yUp_at, yUp_o (by omega), yUp_o (by omega)]; omega
        · by_cases x1 : q = s + 1
          · subst x1
            rw [if_pos (Or.inr (Or.inl rfl)), yUp_o (by omega), show s + 1 - 1 = s by omega, yUp_at, yUp_o (by omega)]
            rw [show s + 1 - 1 = s by omega] at e
            omega
          · by_cases x2 : q = s + 2
            · subst x2
              rw [if_pos (Or.inr (Or.inr rfl)), yUp_o (by omega), yUp_o (by omega), show s + 2 - 2 = s by omega, yUp_at]
              rw [show s + 2 - 2 = s by omega] at e
              omega
            · rw [if_neg (by omega), yUp_o x0, yUp_o (by omega), yUp_o (by omega)]
              exact e
      · rw [yUp_sum (by omega) s4]; omega
      · unfold yR
        rw [if_neg (by omega)]
        exact zero q q0 q1
theorem yV_dc : ∀ (w : Nat) (H : Int → Int) (f rf : Int), yOk w H → 0 ≤ f → f ≤ 34 → yV w H f rf ≠ [] → ∃ A T, yDc w H A T := by
  intro w
  induction w with
  | zero =>
    intro H f rf hok _ _ _
    have z := jSum_z hok.1 (by rw [hok.2]; decide)
    refine ⟨fun _ => 0, fun _ => 0, fun q => ⟨Int.le_refl 0, Int.le_refl 0, fun h => absurd rfl h, fun h => absurd rfl h⟩, fun q q0 q4 => by rw [z q q0 q4]; rfl, by rw [jSum_0]; rfl⟩
  | succ w ih =>
    intro H f rf hok f0 f4 hne
    obtain ⟨s, hs⟩ : ∃ s, s = yFs H f := ⟨_, rfl⟩
    obtain ⟨p1, p2, p3, p4⟩ := yFs_p H f4
    rw [← hs] at p1 p2 p3 p4
    by_cases s4 : s < 34
    · rw [yV_s w H f rf hs s4] at hne
      by_cases c : (if 3 ≤ H s ∧ s ≠ rf then (yV w (yT H s) s (-1)).map (fun c => (200 + s) :: c) else []) = []
      · rw [c, List.nil_append] at hne
        by_cases cr : yCr H s
        · rw [if_pos cr] at hne
          have ok := yOk_R hok (by omega) (p4 s4) cr
          obtain ⟨A, T, d1, d2, d3⟩ := ih (yR H s) s s ok (by omega) p2 (fun z => hne (by rw [z]; rfl))
          have sr := cr.1
          refine ⟨yUp A s (A s + 1), T, fun q => ?_, fun q q0 q4 => ?_, ?_⟩
          · have a := d1 q
            by_cases e : q = s
            · subst e; rw [yUp_at]; exact ⟨by omega, a.2.1, fun _ => ⟨by omega, sr⟩, a.2.2.2⟩
            · rw [yUp_o e]; exact a
          · have e := d2 q q0 q4
            unfold yR at e
            by_cases x0 : q = s
            · subst x0
              rw [if_pos (Or.inl rfl)] at e
              rw [yUp_at, yUp_o (by omega), yUp_o (by omega)]; omega
            · by_cases x1 : q = s + 1
              · subst x1
                rw [if_pos (Or.inr (Or.inl rfl)), show s + 1 - 1 = s by omega] at e
                rw [yUp_o (by omega), show s + 1 - 1 = s by omega, yUp_at, yUp_o (by omega)]
                omega
              · by_cases x2 : q = s + 2
                · subst x2
                  rw [if_pos (Or.inr (Or.inr rfl)), show s + 2 - 2 = s by omega] at e
                  rw [yUp_o (by omega), yUp_o (by omega), show s + 2 - 2 = s by omega, yUp_at]
                  omega
                · rw [if_neg (by omega)] at e
                  rw [yUp_o x0, yUp_o (by omega), yUp_o (by omega)]
                  exact e
          · rw [yUp_sum (by omega) s4]; omega
        · rw [if_neg cr] at hne; exact absurd rfl hne
      · by_cases k : 3 ≤ H s ∧ s ≠ rf
        · rw [if_pos k] at c
          have ok := yOk_T hok ⟨by omega, s4⟩ k.1
          obtain ⟨A, T, d1, d2, d3⟩ := ih (yT H s) s (-1) ok (by omega) p2 (fun z => c (by rw [z]; rfl))
          refine ⟨A, yUp T s (T s + 1), fun q => ?_, fun q q0 q4 => ?_, ?_⟩
          · have a := d1 q
            by_cases e : q = s
            · subst e; rw [yUp_at]; exact ⟨a.1, by omega, a.2.2.1, fun _ => ⟨by omega, s4⟩⟩
            · rw [yUp_o e]; exact a
          · have e := d2 q q0 q4
            unfold yT at e
            by_cases eq : q = s
            · subst eq; rw [if_pos rfl] at e; rw [yUp_at]; omega
            · rw [if_neg eq] at e; rw [yUp_o eq]; exact e
          · rw [yUp_sum (by omega) s4]; omega
        · rw [if_neg k] at c; exact absurd rfl c
    · rw [yV_e w H f rf (by omega)] at hne
      exact absurd rfl hne
theorem yAll_ne {h : Int → Int} {w : Nat} {p : Nat} : ∀ n : Nat, p < n → yL h w p ≠ [] → 0 < (yAll h w n).length := by
  intro n
  induction n with
  | zero => intro hp; omega
  | succ n ih =>
    intro hp hne
    simp only [yAll, List.length_append]
    by_cases e : p = n
    · subst e
      have := List.length_pos_iff.mpr hne
      omega
    · have := ih (by omega) hne
      omega
/-- a way there is, just when pair, runs and threes make the hand -/
theorem yAll_dc {h : Int → Int} {w : Nat} (hf : yFull w h) : 0 < (yAll h w 34).length ↔ ∃ (p : Int) (A T : Int → Int), 0 ≤ p ∧ p < 34 ∧ 2 ≤ h p ∧ yDc w (yP h p) A T := by
  constructor
  · intro k
    obtain ⟨x, hx⟩ := List.exists_mem_of_length_pos k
    obtain ⟨p, c, p4, -, h2, hc⟩ := yAll_mem h w 34 x hx
    obtain ⟨A, T, hd⟩ := yV_dc w (yP h p) 0 (-1) (yFull_P hf ⟨by omega, by omega⟩ h2) (by omega) (by omega) (List.ne_nil_of_mem hc)
    exact ⟨p, A, T, by omega, by omega, h2, hd⟩
  · rintro ⟨p, A, T, p0, p4, h2, hd⟩
    have ne := yV_all w (yP h p) 0 (-1) A T hd (by omega) (by omega) (fun q q0 q1 => by omega) (by
      by_cases z : T (-1) = 0
      · exact z
      · have := (hd.1 (-1)).2.2.2 z; omega)
    have ep : p = ((p.toNat : Nat) : Int) := by omega
    refine yAll_ne (p := p.toNat) 34 (by omega) ?_
    rw [← ep]
    unfold yL
    rw [if_pos h2]
    intro z
    rw [List.map_eq_nil_iff] at z
    exact ne z
end
