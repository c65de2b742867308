/-! ===== lacks: lack ===== -/
section
theorem zX3_ofRow {s : jMem} {h r g p : Int} (hI : iT s) (hch : yCch s) (h0 : 0 ≤ h) (h4 : h < 4) (r0 : 0 ≤ r) (r4 : r < 4) (g0 : 0 ≤ g) (g4 : g ≤ 4) (p0 : 0 ≤ p) (p1 : p ≤ 1) : jHo (fun v t => fK s t ∧ yCch t ∧ ((v = -3 ∧ ∀ n, yRw (vL s h) r 4 g p n → False) ∨ (0 ≤ v ∧ v ≤ 14 ∧ (∃ n, yRw (vL s h) r 4 g p n ∧ yCo (vH s h) r n (yLn r) = v) ∧ ∀ n, yRw (vL s h) r 4 g p n → v ≤ yCo (vH s h) r n (yLn r)))) (fX3_ofRow (37 + 4 * h) r g p s) := by
  obtain ⟨w1, w2, w3, w4, w5, w6⟩ := jjk_t
  obtain ⟨a1, a2, a3, a4, a5, a6⟩ := hI.2.1 h h0 h4
  have look := zX3_look (lim := 14) ⟨by decide, by decide⟩ hI hch h0 h4
  rw [show ((14 : Nat) : Int) = 14 from rfl] at look
  unfold fX3_ofRow
  refine gHo_bd look (fun _ t ht => ?_)
  obtain ⟨f1, e1, tb1⟩ := ht
  refine gHo_bd (zX3_row r0 r4 tb1) (fun _ t2 ht2 => ?_)
  obtain ⟨k1, k2, k3, k4⟩ := ht2
  have kk := k4 g p g0 g4 p0 p1
  have e8 := k1 8 (by decide) (by decide) (by decide) (by decide) (by decide)
  have e9 := k1 9 (by decide) (by decide) (by decide) (by decide) (by decide)
  have rng : ∀ j : Nat, j < yLn r → 0 ≤ 9 * r + (j : Int) ∧ 9 * r + (j : Int) < 34 := fun j hj => yLn_r r0 r4 hj
  have hH : ∀ j : Nat, j < yLn r → t2 8 (9 * r + j) = vH s h (9 * r + j) := fun j hj => by rw [e8]; exact (e1 _ (rng j hj).1 (rng j hj).2).1
  have hL : ∀ j : Nat, j < yLn r → t2 9 (9 * r + j) = vL s h (9 * r + j) := fun j hj => by rw [e9]; exact (e1 _ (rng j hj).1 (rng j hj).2).2
  have hL0 : ∀ j : Nat, j < yLn r → 0 ≤ t2 9 (9 * r + j) := fun j hj => by rw [hL j hj]; exact (a1 _ (rng j hj).1 (rng j hj).2).2.2.2.2.1
  have eP : ∀ n, yRw (t2 9) r 2 g p n ↔ yRw (vL s h) r 4 g p n := fun n => by
    rw [yRw_K hL0]
    exact ⟨yRP_sh Iff.rfl _ _ _ _ _ n n hL (fun _ _ => rfl), yRP_sh Iff.rfl _ _ _ _ _ n n (fun j hj => (hL j hj).symm) (fun _ _ => rfl)⟩
  have eC : ∀ n, yCo (t2 8) r n (yLn r) = yCo (vH s h) r n (yLn r) := fun n => by
    unfold yCo
    exact jSum_cg (fun j hj => by rw [hH j hj])
  have fk : fK s t2 := fun x hx => by rw [k1 x (by omega) (by omega) (by omega) (by omega) (by omega), f1 x (by omega) (by omega) (by omega)]
  obtain ⟨T, m, hv, hcase⟩ := kk
  dsimp only at hcase
  refine gHo_l32 (by omega) (by omega) (gHo_l32 (by omega) (by omega) (gHo_l32 (by omega) (by omega) (gHo_l32 (by omega) (by omega) (gHo_gd ⟨by omega, by omega⟩ (gHo_let ?_)))))
  rw [show r * 10 + 2 * g + p = 10 * r + 2 * g + p by omega]
  obtain ⟨x, hx⟩ : ∃ x, x = t2 10 (10 * r + 2 * g + p) := ⟨_, rfl⟩
  rw [← hx] at hv ⊢
  refine gHo_let (gHo_if (fun e => ?_) (fun e => ?_))
  · have eNW : x = 1099511627776 := by
      unfold jcmp at e
      split at e
      · exact absurd e (by decide)
      · split at e
        · assumption
        · exact absurd e (by decide)
    subst eNW
    obtain ⟨eT, em⟩ := yVl_u hv yVl_nw
    refine gHo_ret ⟨fk, k3.2.2.2.2.2, Or.inl ⟨rfl, fun n hn => ?_⟩⟩
    rcases hcase with ⟨-, -, c⟩ | ⟨c, -⟩
    · have a := c n ((eP n).mpr hn)
      have b := (yCo_bd (H := t2 8) (by decide) (fun j hj => by rw [hH j hj]; exact (a1 _ (rng j hj).1 (rng j hj).2).2.2.1) hn).2
      omega
    · omega
  · rw [zX3_tilesOf hv, jBd_s]
    refine gHo_ret ⟨fk, k3.2.2.2.2.2, Or.inr ?_⟩
    rcases hcase with ⟨c1, c2, -⟩ | ⟨c1, ⟨n, c2, c3⟩, c4, -⟩
    · exfalso
      subst c1 c2
      apply e
      rw [hv.1]
      decide
    · refine ⟨by omega, by omega, ⟨n, (eP n).mp c2, by rw [← eC]; exact c3⟩, fun n hn => by rw [← eC]; exact c4 n ((eP n).mpr hn)⟩
theorem op_lack {h r g p : Int} {s : jMem} (hI : iT s) (hch : yCch s) : ∃ v s1 s2, fX10_lack h r g p s = some (v, s1) ∧ fX11_lack h r g p s1 = some (v, s2) ∧ fC s s1 ∧ fM s1 s2 ∧ yCch s1 := by
  have w := jrk_t
  have u74 : jik 74 = 40 := by decide +kernel
  by_cases hh : 0 ≤ h ∧ h < 4
  · obtain ⟨h0, h4⟩ := hh
    obtain ⟨t0, t1, -⟩ := jh_t h0 h4
    have no : ¬ ((0 ≤ r ∧ r ≤ 3) ∧ (0 ≤ g ∧ g ≤ 4) ∧ (0 ≤ p ∧ p ≤ 1)) → ∃ v s1 s2, fX10_lack h r g p s = some (v, s1) ∧ fX11_lack h r g p s1 = some (v, s2) ∧ fC s s1 ∧ fM s1 s2 ∧ yCch s1 := by
      intro k
      refine ⟨-1, s, s, ?_, ?_, fC_rf s, fM_rf s, hch⟩
      · rw [fX10_lack, sX10_isHand, jBd_s, jb_1 ⟨h0, h4⟩, if_neg (by decide)]
        by_cases c1 : r < 0
        · rw [if_pos c1]; rfl
        · rw [if_neg c1]
          by_cases c2 : 4 ≤ r
          · rw [if_pos c2]; rfl
          · rw [if_neg c2]
            by_cases c3 : g < 0
            · rw [if_pos c3]; rfl
            · rw [if_neg c3]
              by_cases c4 : 4 < g
              · rw [if_pos c4]; rfl
              · rw [if_neg c4]
                by_cases c5 : p < 0
                · rw [if_pos c5]; rfl
                · rw [if_neg c5, if_neg (by omega)]; rfl
      · rw [fX11_lack, sX11_isHand, jBd_s, jb_1 ⟨h0, by omega⟩, if_neg (by decide), sX11_in, jBd_s]
        by_cases c1 : 0 ≤ r ∧ r ≤ 3
        · rw [jb_1 c1, if_neg (by decide), sX11_in, jBd_s]
          by_cases c2 : 0 ≤ g ∧ g ≤ 4
          · rw [jb_1 c2, if_neg (by decide), sX11_in, jBd_s, jb_0 (fun c3 => k ⟨c1, c2, c3⟩), if_pos rfl]; rfl
          · rw [jb_0 c2, if_pos rfl]; rfl
        · rw [jb_0 c1, if_pos rfl]; rfl
    by_cases k : (0 ≤ r ∧ r ≤ 3) ∧ (0 ≤ g ∧ g ≤ 4) ∧ (0 ≤ p ∧ p ≤ 1)
    · obtain ⟨⟨r0, r3⟩, ⟨g0, g4⟩, p0, p1⟩ := k
      obtain ⟨a1, a2, a3, a4, a5, a6⟩ := hI.2.1 h h0 h4
      obtain ⟨v, s1, e1, fk, ch1, hv⟩ := zX3_ofRow hI hch h0 h4 r0 (by omega) g0 g4 p0 p1
      have fc := fK_C fk
      have m : jHo (fun x t => x = v ∧ fM s1 t) (fX11_lack h r g p s1) := by
        rw [fX11_lack, sX11_isHand, jBd_s, jb_1 ⟨h0, by omega⟩, if_neg (show ¬ (1 : Int) = 0 by decide), sX11_in, jBd_s, jb_1 ⟨r0, r3⟩, if_neg (show ¬ (1 : Int) = 0 by decide), sX11_in, jBd_s, jb_1 ⟨g0, g4⟩, if_neg (show ¬ (1 : Int) = 0 by decide), sX11_in, jBd_s, jb_1 ⟨p0, p1⟩, if_neg (show ¬ (1 : Int) = 0 by decide)]
        have vh : ∀ q : Int, vH s1 h q = vH s h q := fun q => by unfold vH; rw [fc 56 (by decide) (by decide)]
        have vl : ∀ q : Int, vL s1 h q = vL s h q := fun q => by unfold vL; rw [fc 57 (by decide) (by decide)]
        refine gHo_bd (zX11_look h0 h4) (fun _ t ht => ?_)
        obtain ⟨q1, q2, q3, q4⟩ := ht
        have q4' : ∀ q : Int, 0 ≤ q → q < 34 → t 68 q = vH s h q ∧ t 69 q = vL s h q := fun q q0 q5 => by
          have := q4 q q0 q5
          rw [vh, vl] at this
          exact this
        refine gHo_bd (zX11_layLacks r0 (by omega) (fun q q0 q5 => by
          have := q4' q q0 q5
          have := a1 q q0 q5
          omega)) (fun _ t2 ht2 => ?_)
        obtain ⟨m1, m2, m3⟩ := ht2
        have m4 := m3 g p g0 g4 p0 p1
        have rng : ∀ j : Nat, j < yLn r → 0 ≤ 9 * r + (j : Int) ∧ 9 * r + (j : Int) < 34 := fun j hj => yLn_r r0 (by omega) hj
        have eP : ∀ n, yRw (t 69) r 4 g p n ↔ yRw (vL s h) r 4 g p n := fun n => ⟨yRP_sh Iff.rfl _ _ _ _ _ n n (fun j hj => (q4' _ (rng j hj).1 (rng j hj).2).2) (fun _ _ => rfl), yRP_sh Iff.rfl _ _ _ _ _ n n (fun j hj => (q4' _ (rng j hj).1 (rng j hj).2).2.symm) (fun _ _ => rfl)⟩
        have eC : ∀ n, yCo (t 68) r n (yLn r) = yCo (vH s h) r n (yLn r) := fun n => by
          unfold yCo
          exact jSum_cg (fun j hj => by rw [(q4' _ (rng j hj).1 (rng j hj).2).1])
        have fm : fM s1 t2 := fun x y hx hy => by
          rw [m1 x (by omega) (by omega) (by omega)]
          by_cases e : x = 53
          · subst e; exact q2 y (by omega)
          · rw [q1 x e (by omega) (by omega)]
        refine gHo_l32 (by omega) (by omega) (gHo_l32 (by omega) (by omega) (gHo_l32 (by omega) (by omega) (gHo_l32 (by omega) (by omega) (gHo_gd ⟨by omega, by omega⟩ (gHo_let ?_)))))
        obtain ⟨x, hx⟩ : ∃ x, x = t2 74 (10 * r + 2 * g + p) := ⟨_, rfl⟩
        rw [← hx] at m4 ⊢
        obtain ⟨y1, y2, y3⟩ := m4
        rcases hv with ⟨v1, v2⟩ | ⟨v1, v2, ⟨n, v3, v4⟩, v5⟩
        · have : x = 99 := by
            by_cases c : x < 99
            · obtain ⟨n, n1, -⟩ := y2 c
              exact absurd ((eP n).mp n1) (v2 n)
            · omega
          rw [if_pos this]
          exact gHo_ret ⟨v1.symm, fm⟩
        · have le := y3 _ ⟨n, (eP n).mpr v3, rfl⟩
          rw [eC, v4] at le
          obtain ⟨n', n1, n2⟩ := y2 (by omega)
          have := v5 n' ((eP n').mp n1)
          rw [eC] at n2
          rw [if_neg (by omega)]
          exact gHo_ret ⟨by omega, fm⟩
      obtain ⟨x, s2, e2, rfl, fm⟩ := m
      refine ⟨x, s1, s2, ?_, e2, fc, fm, ch1⟩
      rw [fX10_lack, sX10_isHand, jBd_s, jb_1 ⟨h0, h4⟩, if_neg (by decide), if_neg (by omega), if_neg (by omega), if_neg (by omega), if_neg (by omega), if_neg (by omega), if_pos p1, jGd_e ⟨h0, by omega⟩, jLet_e, t0, e1, jBd_s]
      rfl
    · exact no k
  · refine ⟨-1, s, s, ?_, ?_, fC_rf s, fM_rf s, hch⟩
    · rw [fX10_lack, sX10_isHand, jBd_s, jb_0 hh, if_pos rfl]; rfl
    · rw [fX11_lack, sX11_isHand, jBd_s, jb_0 (by omega), if_pos rfl]; rfl
end
