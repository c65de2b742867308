/-! ===== worth: the conditions of a way ===== -/
section
def yBits (rn th tw eo one c0 : Int) (w : Nat) : Int := (if rn = 4 then 1 else 0) + (if rn = 0 then 2 else 0) + (if yO c0 then 4 else 0) + (if eo ≠ 0 then 8 else 0) + (if one ≠ 0 then 16 else 0) + (if w = 4 then 32 else 0) + (if tw ≠ 0 then 64 else 0) + (if 3 ≤ th then 128 else 0)
theorem zX6_bit {k : Nat} {b : Int} {s : jMem} (hk : k < 10) : fX6_bit k b s = some (if b ≠ 0 then ((2 ^ k : Nat) : Int) else 0, s) := by
  have p : ∀ k : Nat, k < 10 → jshl 1 (k : Int) = ((2 ^ k : Nat) : Int) := by decide +kernel
  unfold fX6_bit
  by_cases e : b = 0
  · rw [if_pos e, if_neg (fun z => z e)]; rfl
  · rw [if_neg e, if_pos e, jLet_e, p k hk]; rfl
theorem yif_bd {c : Prop} [Decidable c] {b : Int} (hb : 0 ≤ b) : 0 ≤ (if c then b else 0) ∧ (if c then b else 0) ≤ b := by split <;> omega
/-- seven bits on, one by one -/
theorem yOrs {a b c d e f g h : Int} (ha : a = 0 ∨ a = 1) (hb : b = 0 ∨ b = 2) (hc : c = 0 ∨ c = 4) (hd : d = 0 ∨ d = 8) (he : e = 0 ∨ e = 16) (hf : f = 0 ∨ f = 32) (hg : g = 0 ∨ g = 64) (hh : h = 0 ∨ h = 128) : jor a b = a + b ∧ jor (a + b) c = a + b + c ∧ jor (a + b + c) d = a + b + c + d ∧ jor (a + b + c + d) e = a + b + c + d + e ∧ jor (a + b + c + d + e) f = a + b + c + d + e + f ∧ jor (a + b + c + d + e + f) g = a + b + c + d + e + f + g ∧ jor (a + b + c + d + e + f + g) h = a + b + c + d + e + f + g + h := by
  have key : ∀ (k : Nat) (x y : Int), k < 10 → 0 ≤ x → x < ((2 ^ k : Nat) : Int) → (y = 0 ∨ y = ((2 ^ k : Nat) : Int)) → jor x y = x + y := by
    intro k x y hk h0 h1 hy
    obtain ⟨n, rfl⟩ := jnn h0
    have := jor_up k hk n (by omega)
    rcases hy with rfl | rfl
    · rw [this.2]; omega
    · exact this.1
  refine ⟨key 1 _ _ (by decide) (by omega) (by show a < 2; omega) hb, key 2 _ _ (by decide) (by omega) (by show a + b < 4; omega) hc, key 3 _ _ (by decide) (by omega) (by show a + b + c < 8; omega) hd, key 4 _ _ (by decide) (by omega) (by show a + b + c + d < 16; omega) he, key 5 _ _ (by decide) (by omega) (by show a + b + c + d + e < 32; omega) hf, key 6 _ _ (by decide) (by omega) (by show a + b + c + d + e + f < 64; omega) hg, key 7 _ _ (by decide) (by omega) (by show a + b + c + d + e + f + g < 128; omega) hh⟩
theorem yif_01 {c : Prop} [Decidable c] {b : Int} : (if c then b else 0) = 0 ∨ (if c then b else 0) = b := by
  split
  · exact Or.inr rfl
  · exact Or.inl rfl
theorem zX9_c152 {rn th tw eo one p : Int} {w : Nat} {s : jMem} (hp : 0 ≤ p ∧ p < 34) (hw : s 17 3 = w) : bX9_conditionsOf_152 rn th tw eo one p s = some (yBits rn th tw eo one p w, s) := by
  obtain ⟨o1, o2, o3, o4, o5, o6, o7⟩ := yOrs (a := if rn = 4 then 1 else 0) (b := if rn = 0 then 2 else 0) (c := if yO p then 4 else 0) (d := if eo ≠ 0 then 8 else 0) (e := if one ≠ 0 then 16 else 0) (f := if w = 4 then 32 else 0) (g := if tw ≠ 0 then 64 else 0) (h := if 3 ≤ th then 128 else 0) yif_01 yif_01 yif_01 yif_01 yif_01 yif_01 yif_01 yif_01
  have b0 : ∀ b : Int, fX6_bit 0 b s = some (if b ≠ 0 then 1 else 0, s) := fun b => zX6_bit (k := 0) (by decide)
  have b1 : ∀ b : Int, fX6_bit 1 b s = some (if b ≠ 0 then 2 else 0, s) := fun b => zX6_bit (k := 1) (by decide)
  have b2 : ∀ b : Int, fX6_bit 2 b s = some (if b ≠ 0 then 4 else 0, s) := fun b => zX6_bit (k := 2) (by decide)
  have b3 : ∀ b : Int, fX6_bit 3 b s = some (if b ≠ 0 then 8 else 0, s) := fun b => zX6_bit (k := 3) (by decide)
  have b4 : ∀ b : Int, fX6_bit 4 b s = some (if b ≠ 0 then 16 else 0, s) := fun b => zX6_bit (k := 4) (by decide)
  have b5 : ∀ b : Int, fX6_bit 5 b s = some (if b ≠ 0 then 32 else 0, s) := fun b => zX6_bit (k := 5) (by decide)
  have b6 : ∀ b : Int, fX6_bit 6 b s = some (if b ≠ 0 then 64 else 0, s) := fun b => zX6_bit (k := 6) (by decide)
  have b7 : ∀ b : Int, fX6_bit 7 b s = some (if b ≠ 0 then 128 else 0, s) := fun b => zX6_bit (k := 7) (by decide)
  have e7 : ∀ x : Int, x = (if w = 4 then (1 : Int) else 0) → ∀ y : Int, y = (if rn = 4 then 1 else 0) + (if rn = 0 then 2 else 0) + (if yO p then 4 else 0) + (if eo ≠ 0 then 8 else 0) + (if one ≠ 0 then 16 else 0) → bX9_conditionsOf_218 th tw y 5 x s = some (yBits rn th tw eo one p w, s) := by
    intro x hx y hy
    have ex : (if x ≠ 0 then (32 : Int) else 0) = if w = 4 then 32 else 0 := by
      rw [hx]; split <;> simp
    unfold bX9_conditionsOf_218
    rw [b5, jBd_s, jLet_e, ex, hy, o5, b6, jBd_s, jLet_e, o6]
    by_cases e : th < 3
    · rw [if_pos e, b7, jBd_s, jLet_e]
      rw [if_neg (show ¬ (3 ≤ th) by omega)] at o7
      rw [if_neg (show ¬ ((0 : Int) ≠ 0) by decide), o7]
      unfold yBits
      rw [if_neg (show ¬ (3 ≤ th) by omega)]
      rfl
    · rw [if_neg e, b7, jBd_s, jLet_e]
      rw [if_pos (show (3 ≤ th) by omega)] at o7
      rw [if_pos (show ((1 : Int) ≠ 0) by decide), o7]
      unfold yBits
      rw [if_pos (show (3 ≤ th) by omega)]
      rfl
  have e5 : ∀ x : Int, x = (if rn = 0 then (1 : Int) else 0) → bX9_conditionsOf_176 th tw eo one p (if rn = 4 then 1 else 0) 1 x s = some (yBits rn th tw eo one p w, s) := by
    intro x hx
    have ex : (if x ≠ 0 then (2 : Int) else 0) = if rn = 0 then 2 else 0 := by
      rw [hx]; split <;> simp
    have ey : (if jb (yO p) ≠ 0 then (4 : Int) else 0) = if yO p then 4 else 0 := by
      by_cases o : yO p
      · rw [jb_1 o, if_pos o]; rfl
      · rw [jb_0 o, if_neg o]; rfl
    unfold bX9_conditionsOf_176
    rw [b1, jBd_s, jLet_e, ex, o1, zX8_isOuter hp.1 (by omega), jBd_s, b2, jBd_s, jLet_e, ey, o2, b3, jBd_s, jLet_e, o3, b4, jBd_s, jLet_e, o4, jLet_e, hw]
    by_cases e : w = 4
    · rw [if_pos (show (w : Int) = 4 by omega)]; exact e7 1 (by rw [if_pos e]) _ rfl
    · rw [if_neg (show ¬ (w : Int) = 4 by omega)]; exact e7 0 (by rw [if_neg e]) _ rfl
  have e3 : ∀ x : Int, x = (if rn = 4 then (1 : Int) else 0) → bX9_conditionsOf_163 rn th tw eo one p 0 x s = some (yBits rn th tw eo one p w, s) := by
    intro x hx
    have ex : (if x ≠ 0 then (1 : Int) else 0) = if rn = 4 then 1 else 0 := by
      rw [hx]; split <;> simp
    unfold bX9_conditionsOf_163
    rw [b0, jBd_s, ex]
    by_cases e : rn = 0
    · rw [if_pos e]; exact e5 1 (by rw [if_pos e])
    · rw [if_neg e]; exact e5 0 (by rw [if_neg e])
  unfold bX9_conditionsOf_152
  by_cases e : rn = 4
  · rw [if_pos e]; exact e3 1 (by rw [if_pos e])
  · rw [if_neg e]; exact e3 0 (by rw [if_neg e])
theorem zX11_c142 {rn th tw eo c0 : Int} {w : Nat} {f g : Int → Int} {s : jMem} (hp : 0 ≤ c0 ∧ c0 < 34) (hc : s 71 0 = c0) (hw : s 53 20 = 4 - (w : Int)) (hf : ∀ q : Int, 0 ≤ q → q < 34 → s 68 q = f q ∧ 0 ≤ f q ∧ f q ≤ 100 ∧ s 69 q = g q ∧ 0 ≤ g q ∧ g q ≤ 100) : ∃ one, (one = 1 ∨ one = 0) ∧ (one = 1 ↔ yOne (fun q => f q + g q)) ∧ bX11_conditionsOfWay_142 rn th tw eo s = some (yBits rn th tw eo one c0 w, s) := by
  obtain ⟨u1, u2, u3, u4, u5, u6, u7, u8, u9, u10, u11, u12, u13, u14, u15, u16, u17, u18, -⟩ := jik_m
  obtain ⟨one, ho, h01, hiff⟩ := zX11_isOneRow hf
  refine ⟨one, h01, hiff, ?_⟩
  obtain ⟨o1, o2, o3, o4, o5, o6, o7⟩ := yOrs (a := if rn = 4 then 1 else 0) (b := if rn = 0 then 2 else 0) (c := if yO c0 then 4 else 0) (d := if eo ≠ 0 then 8 else 0) (e := if one ≠ 0 then 16 else 0) (f := if w = 4 then 32 else 0) (g := if tw ≠ 0 then 64 else 0) (h := if 3 ≤ th then 128 else 0) yif_01 yif_01 yif_01 yif_01 yif_01 yif_01 yif_01 yif_01
  have s7 : ∀ x : Int, x = (if tw ≠ 0 then (64 : Int) else 0) → bX11_conditionsOfWay_248 th ((if rn = 4 then 1 else 0) + (if rn = 0 then 2 else 0) + (if yO c0 then 4 else 0) + (if eo ≠ 0 then 8 else 0) + (if one ≠ 0 then 16 else 0) + (if w = 4 then 32 else 0)) x s = some (yBits rn th tw eo one c0 w, s) := by
    intro x hx
    unfold bX11_conditionsOfWay_248
    rw [hx, jLet_e, o6]
    by_cases e : th < 3
    · rw [if_neg (show ¬ (3 ≤ th) by omega)] at o7
      rw [if_pos e, jLet_e, o7]
      unfold yBits
      rw [if_neg (show ¬ (3 ≤ th) by omega)]; rfl
    · rw [if_pos (show (3 ≤ th) by omega)] at o7
      rw [if_neg e, jLet_e, o7]
      unfold yBits
      rw [if_pos (show (3 ≤ th) by omega)]; rfl
  have s6 : ∀ x : Int, x = (if w = 4 then (32 : Int) else 0) → bX11_conditionsOfWay_233 th tw ((if rn = 4 then 1 else 0) + (if rn = 0 then 2 else 0) + (if yO c0 then 4 else 0) + (if eo ≠ 0 then 8 else 0) + (if one ≠ 0 then 16 else 0)) x s = some (yBits rn th tw eo one c0 w, s) := by
    intro x hx
    unfold bX11_conditionsOfWay_233
    rw [hx, jLet_e, o5]
    by_cases e : tw = 0
    · rw [if_pos e]; exact s7 0 (by rw [if_neg (fun z => z e)])
    · rw [if_neg e]; exact s7 64 (by rw [if_pos e])
  have s5 : ∀ x : Int, x = (if one ≠ 0 then (16 : Int) else 0) → bX11_conditionsOfWay_215 th tw ((if rn = 4 then 1 else 0) + (if rn = 0 then 2 else 0) + (if yO c0 then 4 else 0) + (if eo ≠ 0 then 8 else 0)) x s = some (yBits rn th tw eo one c0 w, s) := by
    intro x hx
    unfold bX11_conditionsOfWay_215
    rw [hx, jLet_e, o4, jLet_e, hw]
    by_cases e : w = 4
    · rw [if_pos (show 4 - (w : Int) = 0 by omega)]; exact s6 32 (by rw [if_pos e])
    · rw [if_neg (show ¬ 4 - (w : Int) = 0 by omega)]; exact s6 0 (by rw [if_neg e])
  have s4 : ∀ x : Int, x = (if eo ≠ 0 then (8 : Int) else 0) → bX11_conditionsOfWay_197 th tw ((if rn = 4 then 1 else 0) + (if rn = 0 then 2 else 0) + (if yO c0 then 4 else 0)) x s = some (yBits rn th tw eo one c0 w, s) := by
    intro x hx
    unfold bX11_conditionsOfWay_197
    rw [hx, jLet_e, o3, ho, jBd_s]
    by_cases e : one = 0
    · rw [if_pos e]; exact s5 0 (by rw [if_neg (fun z => z e)])
    · rw [if_neg e]; exact s5 16 (by rw [if_pos e])
  have s3 : ∀ x : Int, x = (if yO c0 then (4 : Int) else 0) → bX11_conditionsOfWay_181 th tw eo ((if rn = 4 then 1 else 0) + (if rn = 0 then 2 else 0)) x s = some (yBits rn th tw eo one c0 w, s) := by
    intro x hx
    unfold bX11_conditionsOfWay_181
    rw [hx, jLet_e, o2]
    by_cases e : eo = 0
    · rw [if_pos e]; exact s4 0 (by rw [if_neg (fun z => z e)])
    · rw [if_neg e]; exact s4 8 (by rw [if_pos e])
  have s2 : ∀ x : Int, x = (if rn = 4 then (1 : Int) else 0) + (if rn = 0 then 2 else 0) → bX11_conditionsOfWay_160 th tw eo x s = some (yBits rn th tw eo one c0 w, s) := by
    intro x hx
    unfold bX11_conditionsOfWay_160
    rw [jGd_e ⟨by omega, by omega⟩, jLet_e, hc, zX11_isOuter hp.1 (by omega), jBd_s, hx]
    by_cases e : yO c0
    · rw [jb_1 e, if_neg (show ¬ (1 : Int) = 0 by decide)]; exact s3 4 (by rw [if_pos e])
    · rw [jb_0 e, if_pos (show (0 : Int) = 0 from rfl)]; exact s3 0 (by rw [if_neg e])
  unfold bX11_conditionsOfWay_142
  by_cases e : rn = 4
  · rw [if_pos e]; exact s2 1 (by rw [if_pos e, if_neg (by omega)]; rfl)
  · rw [if_neg e]
    by_cases e0 : rn = 0
    · rw [if_pos e0]; exact s2 2 (by rw [if_neg e, if_pos e0]; rfl)
    · rw [if_neg e0]; exact s2 0 (by rw [if_neg e, if_neg e0]; rfl)
/-- five codes: a pair, then groups -/
def yC5 (c : Int → Int) : Prop := (0 ≤ c 0 ∧ c 0 < 34) ∧ ∀ k : Int, 1 ≤ k → k < 5 → jCode (c k)
theorem yC5_bd {c : Int → Int} (h : yC5 c) (k : Int) (k0 : 0 ≤ k) (k5 : k < 5) : 0 ≤ c k ∧ c k < 400 ∧ 0 ≤ c k % 100 ∧ c k % 100 < 34 ∧ (c k / 100 = 1 → c k % 100 < 27 ∧ c k % 100 % 9 ≤ 6) := by
  by_cases e : k = 0
  · subst e
    have := h.1
    omega
  · obtain ⟨m, s, hc, m1, m3, s0, s4, hr⟩ := h.2 k (by omega) k5
    rw [hc]
    refine ⟨by omega, by omega, by omega, by omega, fun z => ?_⟩
    have := hr (by omega)
    rw [show (100 * m + s) % 100 = s by omega]
    exact this
def yRn (c : Int → Int) (n : Nat) : Int := jSum (fun k => if c k / 100 = 1 then 1 else 0) n
def yTh (c : Int → Int) (w : Nat) (n : Nat) : Int := jSum (fun k => if c k / 100 = 2 ∧ k ≤ (w : Int) then 1 else 0) n
def yTw (c : Int → Int) (n : Nat) : Prop := ∃ k : Nat, k < n ∧ c k / 100 = 1 ∧ ∃ j : Nat, 1 ≤ j ∧ j < k ∧ c j = c k
def yEo (c : Int → Int) (n : Nat) : Prop := ∀ k : Nat, k < n → yHo (c k)
def yEr (c : Int → Int) (n : Nat) : Prop := ∀ k : Nat, k < n → yRo (c k) = yRo (c 0)
theorem jrem_100 {q : Int} (q0 : 0 ≤ q) (q4 : q < 1000) : jrem q 100 = q % 100 := jrem_nn ⟨q0, by omega⟩ ⟨by decide, by decide⟩
theorem jdiv_100 {q : Int} (q0 : 0 ≤ q) (q4 : q < 1000) : jdiv q 100 = q / 100 := jdiv_nn ⟨q0, by omega⟩ ⟨by decide, by decide⟩
theorem zX0_kindOf {q : Int} {s : jMem} (q0 : 0 ≤ q) (q4 : q < 1000) : fX0_kindOf q s = some (q / 100, s) := by
  unfold fX0_kindOf
  rw [jGd_e (by decide), jLet_e, jdiv_100 q0 q4]; rfl
theorem zX0_sortOf {q : Int} {s : jMem} (q0 : 0 ≤ q) (q4 : q < 1000) : fX0_sortOf q s = some (q % 100, s) := by
  unfold fX0_sortOf
  rw [jGd_e (by decide), jLet_e, jrem_100 q0 q4]; rfl
theorem zX8_rowOf {q : Int} {s : jMem} (q0 : 0 ≤ q) (q4 : q < 1000) : fX8_rowOf q s = some (q / 9, s) := by
  unfold fX8_rowOf
  rw [jGd_e (by decide), jLet_e, jdiv_9 q0 q4]; rfl
theorem zX0_hasOuter {q : Int} {s : jMem} (q0 : 0 ≤ q) (q4 : q < 1000) : fX0_hasOuter q s = some (jb (yHo q), s) := by
  unfold fX0_hasOuter
  rw [zX0_sortOf q0 q4, jBd_s, zX8_isOuter (by omega) (by omega), jBd_s]
  by_cases a : yO (q % 100)
  · rw [jb_1 a, if_neg (by decide), jb_1 (Or.inl a)]; rfl
  · rw [jb_0 a, if_pos rfl, zX0_kindOf q0 q4, jBd_s]
    by_cases b : q / 100 = 1
    · rw [if_pos b, jLet_e, j32_id (by omega) (by omega), zX8_isOuter (by omega) (by omega), jBd_s]
      by_cases c : yO (q % 100 + 2)
      · rw [jb_1 c, if_neg (by decide), jb_1 (Or.inr ⟨b, c⟩)]; rfl
      · rw [jb_0 c, if_pos rfl, jb_0 (fun z => z.elim a (fun y => c y.2))]; rfl
    · rw [if_neg b, jb_0 (fun z => z.elim a (fun y => b y.1))]; rfl
theorem zX11_hasOuter {q : Int} {s : jMem} (q0 : 0 ≤ q) (q4 : q < 1000) (hr : q / 100 = 1 → q % 100 < 27 ∧ q % 100 % 9 ≤ 6) : fX11_hasOuter q s = some (jb (yHo q), s) := by
  unfold fX11_hasOuter
  rw [jGd_e (by decide), jLet_e, jrem_100 q0 q4, jGd_e (by decide), jLet_e, jdiv_100 q0 q4]
  by_cases b : q / 100 = 1
  · have r := hr b
    rw [if_pos b, jGd_e (by decide), jLet_e, jrem_9 (by omega) (by omega)]
    by_cases c : q % 100 % 9 = 0
    · rw [if_pos c, jb_1 (Or.inl (Or.inr (Or.inl c)))]; rfl
    · rw [if_neg c, jGd_e (by decide), jLet_e]
      by_cases d : q % 100 % 9 = 6
      · rw [if_pos d, jb_1 (Or.inr ⟨b, Or.inr (Or.inr (by omega))⟩)]; rfl
      · rw [if_neg d, jb_0 (by unfold yHo yO; omega)]; rfl
  · rw [if_neg b, zX11_isOuter (by omega) (by omega), jBd_s]
    by_cases a : yO (q % 100)
    · rw [jb_1 a, jb_1 (Or.inl a)]; rfl
    · rw [jb_0 a, jb_0 (fun z => z.elim a (fun y => b y.1))]; rfl
theorem zX9_codeAt {i k : Int} {c : Int → Int} {s : jMem} (i0 : 0 ≤ i) (i8 : i < 8) (k0 : 0 ≤ k) (k5 : k < 5) (hc : ∀ k : Int, 0 ≤ k → k < 5 → s 20 (5 * i + k) = c k) : fX9_codeAt i k s = some (c k, s) := by
  have u := jik_t
  unfold fX9_codeAt
  simp only [jLet_e, jRet]
  rw [j32_id (x := 5 * i) (by omega) (by omega), j32_id (x := 5 * i + k) (by omega) (by omega), jGd_e ⟨by omega, by omega⟩, hc k k0 k5]
theorem zX9_stoodAhead {i : Int} {n : Nat} {c : Int → Int} {s : jMem} (i0 : 0 ≤ i) (i8 : i < 8) (n5 : n < 5) (hc : ∀ k : Int, 0 ≤ k → k < 5 → s 20 (5 * i + k) = c k) : ∃ v, fX9_stoodAhead i n s = some (v, s) ∧ (v = 1 ∨ v = 0) ∧ (v = 1 ↔ ∃ j : Nat, 1 ≤ j ∧ j < n ∧ c j = c n) := by
  have main : jHo (fun v t => t = s ∧ (v = 1 ∨ v = 0) ∧ (v = 1 ↔ ∃ j : Nat, 1 ≤ j ∧ j < n ∧ c j = c n)) (fX9_stoodAhead i n s) := by
    unfold fX9_stoodAhead
    refine gIt4 (fun a1 a2 a3 t => a1 = i ∧ a2 = n ∧ t = s ∧ ∃ m : Nat, a3 = m ∧ 1 ≤ m ∧ m ≤ 5 ∧ ∀ j : Nat, 1 ≤ j → j < m → j < n → c j ≠ c n) (fun _ _ a3 => (5 - a3).toNat) ?_ 1000 i n 1 s ⟨rfl, rfl, rfl, 1, rfl, by omega, by omega, fun j a b => by omega⟩ (by decide)
    rintro rec a1 a2 a3 t ⟨rfl, rfl, rfl, m, rfl, m1, m5, hn⟩ ih
    unfold bX9_stoodAhead_2
    refine gHo_if (fun e => gHo_ret ⟨rfl, Or.inr rfl, fun z => absurd z (by decide), fun ⟨j, a, b, k⟩ => absurd k (hn j a (by omega) b)⟩) (fun e => ?_)
    rw [zX9_codeAt (c := c) i0 i8 (by omega) (by omega) hc, jBd_s, zX9_codeAt (c := c) i0 i8 (by omega) (by omega) hc, jBd_s]
    refine gHo_if (fun e2 => gHo_ret ⟨rfl, Or.inl rfl, fun _ => ⟨m, m1, by omega, e2⟩, fun _ => rfl⟩) (fun e2 => ?_)
    refine gHo_l32 (by omega) (by omega) (ih _ _ _ _ ⟨rfl, rfl, rfl, m + 1, by omega, by omega, by omega, fun j a b d => ?_⟩ (by omega))
    by_cases ej : j = m
    · subst ej; exact e2
    · exact hn j a (by omega) d
  obtain ⟨v, t, e, rfl, k1, k2⟩ := main
  exact ⟨v, e, k1, k2⟩
theorem yFlag {a b : Int} (ha : a = 1 ∨ a = 0) (hb : b = 1 ∨ b = 0) {P : Prop} (h1 : a = 1 ↔ P) (h2 : b = 1 ↔ P) : a = b := by
  by_cases e : P
  · rw [h1.mpr e, h2.mpr e]
  · have x : a ≠ 1 := fun z => e (h1.mp z)
    have y : b ≠ 1 := fun z => e (h2.mp z)
    omega
theorem zX9_conditionsOf {i : Int} {c : Int → Int} {w : Nat} {s : jMem} (i0 : 0 ≤ i) (i8 : i < 8) (h5 : yC5 c) (hc : ∀ k : Int, 0 ≤ k → k < 5 → s 20 (5 * i + k) = c k) (hw : s 17 3 = w) : ∃ tw eo er : Int, fX9_conditionsOf i s = some (yBits (yRn c 5) (yTh c w 5) tw eo er (c 0) w, s) ∧ (tw = 1 ∨ tw = 0) ∧ (tw = 1 ↔ yTw c 5) ∧ (eo = 1 ∨ eo = 0) ∧ (eo = 1 ↔ yEo c 5) ∧ (er = 1 ∨ er = 0) ∧ (er = 1 ↔ yEr c 5) := by
  have main : jHo (fun v t => t = s ∧ ∃ tw eo er : Int, v = yBits (yRn c 5) (yTh c w 5) tw eo er (c 0) w ∧ (tw = 1 ∨ tw = 0) ∧ (tw = 1 ↔ yTw c 5) ∧ (eo = 1 ∨ eo = 0) ∧ (eo = 1 ↔ yEo c 5) ∧ (er = 1 ∨ er = 0) ∧ (er = 1 ↔ yEr c 5)) (fX9_conditionsOf i s) := by
    have p0 := h5.1
    unfold fX9_conditionsOf
    rw [zX9_codeAt (c := c) i0 i8 (by omega) (by omega) hc, jBd_s, zX0_sortOf p0.1 (by omega), jBd_s, show c 0 % 100 = c 0 by omega]
    refine gIt9 (fun a1 a2 a3 a4 a5 a6 a7 a8 t => a1 = i ∧ a7 = c 0 ∧ t = s ∧ ∃ n : Nat, a8 = n ∧ n ≤ 5 ∧ a2 = yRn c n ∧ a3 = yTh c w n ∧ (a4 = 1 ∨ a4 = 0) ∧ (a4 = 1 ↔ yTw c n) ∧ (a5 = 1 ∨ a5 = 0) ∧ (a5 = 1 ↔ yEo c n) ∧ (a6 = 1 ∨ a6 = 0) ∧ (a6 = 1 ↔ yEr c n)) (fun _ _ _ _ _ _ _ a8 => (5 - a8).toNat) ?_ 1000 i 0 0 0 1 1 (c 0) 0 s ⟨rfl, rfl, rfl, 0, rfl, by omega, rfl, rfl, Or.inr rfl, ⟨fun z => absurd z (by decide), fun ⟨k, z, _⟩ => by omega⟩, Or.inl rfl, ⟨fun _ k hk => by omega, fun _ => rfl⟩, Or.inl rfl, ⟨fun _ k hk => by omega, fun _ => rfl⟩⟩ (by decide)
    rintro rec a1 a2 a3 a4 a5 a6 a7 a8 t ⟨rfl, rfl, rfl, n, rfl, hn, rfl, rfl, tw1, tw2, eo1, eo2, er1, er2⟩ ih
    have rb := yc_bd (P := fun k => c k / 100 = 1) n
    have tb := yc_bd (P := fun k => c k / 100 = 2 ∧ k ≤ (w : Int)) n
    unfold bX9_conditionsOf_27
    refine gHo_if (fun hx => ?_) (fun hx => ?_)
    · have e : n = 5 := by omega
      subst e
      rw [zX9_c152 (by exact p0) hw]
      exact gHo_some ⟨rfl, a4, a5, a6, rfl, tw1, tw2, eo1, eo2, er1, er2⟩
    · have cb := yC5_bd h5 n (by omega) (by omega)
      -- the row
      have last : ∀ x4 th eo : Int, (th = yTh c w (n + 1)) → ∀ rn : Int, rn = yRn c (n + 1) → (x4 = 1 ∨ x4 = 0) → (x4 = 1 ↔ yTw c (n + 1)) → (eo = 1 ∨ eo = 0) → (eo = 1 ↔ yEo c (n + 1)) → jHo (fun v t' => t' = t ∧ ∃ tw eo er : Int, v = yBits (yRn c 5) (yTh c w 5) tw eo er (c 0) w ∧ (tw = 1 ∨ tw = 0) ∧ (tw = 1 ↔ yTw c 5) ∧ (eo = 1 ∨ eo = 0) ∧ (eo = 1 ↔ yEo c 5) ∧ (er = 1 ∨ er = 0) ∧ (er = 1 ↔ yEr c 5)) (bX9_conditionsOf_116 rec a1 rn th x4 a6 (c 0) n (c n) eo t) := by
        intro x4 th eo hth rn hrn h1 h2 h3 h4
        have fin : ∀ er : Int, (er = 1 ∨ er = 0) → (er = 1 ↔ yEr c (n + 1)) → jHo (fun v t' => t' = t ∧ ∃ tw eo er : Int, v = yBits (yRn c 5) (yTh c w 5) tw eo er (c 0) w ∧ (tw = 1 ∨ tw = 0) ∧ (tw = 1 ↔ yTw c 5) ∧ (eo = 1 ∨ eo = 0) ∧ (eo = 1 ↔ yEo c 5) ∧ (er = 1 ∨ er = 0) ∧ (er = 1 ↔ yEr c 5)) (bX9_conditionsOf_144 rec a1 rn th x4 eo (c 0) n er t) := by
          intro er k1 k2
          unfold bX9_conditionsOf_144
          exact gHo_l32 (by omega) (by omega) (ih _ _ _ _ _ _ _ _ _ ⟨rfl, rfl, rfl, n + 1, by omega, by omega, hrn, hth, h1, h2, h3, h4, k1, k2⟩ (by omega))
        unfold bX9_conditionsOf_116
        refine gHo_if (fun e => ?_) (fun e => ?_)
        · unfold bX9_conditionsOf_143
          exact fin 0 (Or.inr rfl) ⟨fun z => absurd z (by decide), fun z => absurd (e.symm.trans (er2.mpr (fun k hk => z k (by omega)))) (by decide)⟩
        · have z1 := er2.mp (er1.resolve_right e)
          rw [zX0_sortOf cb.1 (by omega), jBd_s, zX8_rowOf cb.2.2.1 (by omega), jBd_s, zX8_rowOf p0.1 (by omega), jBd_s]
          have er0 : yRo (c 0) = c 0 / 9 := by unfold yRo; rw [show c 0 % 100 = c 0 by omega]
          refine gHo_if (fun e2 => ?_) (fun e2 => ?_)
          · refine fin 1 (Or.inl rfl) ⟨fun _ k hk => ?_, fun _ => rfl⟩
            by_cases ek : k = n
            · subst ek; rw [er0]; exact e2
            · exact z1 k (by omega)
          · unfold bX9_conditionsOf_143
            exact fin 0 (Or.inr rfl) ⟨fun z => absurd z (by decide), fun z => absurd ((z n (by omega)).trans er0) e2⟩
      -- outer tiles
      have outer : ∀ x4 th : Int, (th = yTh c w (n + 1)) → ∀ rn : Int, rn = yRn c (n + 1) → (x4 = 1 ∨ x4 = 0) → (x4 = 1 ↔ yTw c (n + 1)) → jHo (fun v t' => t' = t ∧ ∃ tw eo er : Int, v = yBits (yRn c 5) (yTh c w 5) tw eo er (c 0) w ∧ (tw = 1 ∨ tw = 0) ∧ (tw = 1 ↔ yTw c 5) ∧ (eo = 1 ∨ eo = 0) ∧ (eo = 1 ↔ yEo c 5) ∧ (er = 1 ∨ er = 0) ∧ (er = 1 ↔ yEr c 5)) (bX9_conditionsOf_98 rec a1 rn th x4 a5 a6 (c 0) n (c n) t) := by
        intro x4 th hth rn hrn h1 h2
        unfold bX9_conditionsOf_98
        refine gHo_if (fun e => ?_) (fun e => ?_)
        · unfold bX9_conditionsOf_115
          exact last x4 th 0 hth rn hrn h1 h2 (Or.inr rfl) ⟨fun z => absurd z (by decide), fun z => absurd (e.symm.trans (eo2.mpr (fun k hk => z k (by omega)))) (by decide)⟩
        · have z1 := eo2.mp (eo1.resolve_right e)
          rw [zX0_hasOuter cb.1 (by omega), jBd_s]
          by_cases o : yHo (c n)
          · rw [jb_1 o, if_neg (by decide)]
            refine last x4 th 1 hth rn hrn h1 h2 (Or.inl rfl) ⟨fun _ k hk => ?_, fun _ => rfl⟩
            by_cases ek : k = n
            · subst ek; exact o
            · exact z1 k (by omega)
          · rw [jb_0 o, if_pos rfl]
            unfold bX9_conditionsOf_115
            exact last x4 th 0 hth rn hrn h1 h2 (Or.inr rfl) ⟨fun z => absurd z (by decide), fun z => absurd (z n (by omega)) o⟩
      -- threes
      have three : ∀ x4 rn : Int, rn = yRn c (n + 1) → (x4 = 1 ∨ x4 = 0) → (x4 = 1 ↔ yTw c (n + 1)) → jHo (fun v t' => t' = t ∧ ∃ tw eo er : Int, v = yBits (yRn c 5) (yTh c w 5) tw eo er (c 0) w ∧ (tw = 1 ∨ tw = 0) ∧ (tw = 1 ↔ yTw c 5) ∧ (eo = 1 ∨ eo = 0) ∧ (eo = 1 ↔ yEo c 5) ∧ (er = 1 ∨ er = 0) ∧ (er = 1 ↔ yEr c 5)) (bX9_conditionsOf_80 rec a1 rn (yTh c w n) x4 a5 a6 (c 0) n (c n) (c n / 100) t) := by
        intro x4 rn hrn h1 h2
        have es : yTh c w (n + 1) = yTh c w n + (if c n / 100 = 2 ∧ (n : Int) ≤ (w : Int) then 1 else 0) := rfl
        have tb2 : 0 ≤ yTh c w n ∧ yTh c w n ≤ n := tb
        unfold bX9_conditionsOf_80
        refine gHo_if (fun e => ?_) (fun e => ?_)
        · refine gHo_let ?_
          rw [hw]
          refine gHo_if (fun e2 => ?_) (fun e2 => ?_)
          · exact outer x4 _ (by rw [es, if_neg (by omega)]; omega) rn hrn h1 h2
          · exact gHo_l32 (by omega) (by omega) (outer x4 _ (by rw [es, if_pos (by omega)]) rn hrn h1 h2)
        · exact outer x4 _ (by rw [es, if_neg (fun z => e z.1)]; omega) rn hrn h1 h2
      have er : yRn c (n + 1) = yRn c n + (if c n / 100 = 1 then 1 else 0) := rfl
      have rb2 : 0 ≤ yRn c n ∧ yRn c n ≤ n := rb
      rw [zX9_codeAt (c := c) i0 i8 (by omega) (by omega) hc, jBd_s, zX0_kindOf cb.1 (by omega), jBd_s]
      refine gHo_if (fun e => ?_) (fun e => ?_)
      · refine gHo_l32 (by omega) (by omega) ?_
        have ern : yRn c n + 1 = yRn c (n + 1) := by rw [er, if_pos e]
        refine gHo_if (fun e2 => ?_) (fun e2 => ?_)
        · have z2 : ¬ yTw c n := fun z => absurd (e2.symm.trans (tw2.mpr z)) (by decide)
          obtain ⟨v, hv, v1, v2⟩ := zX9_stoodAhead (n := n) (c := c) i0 i8 (by omega) hc
          rw [hv, jBd_s]
          refine gHo_if (fun e3 => ?_) (fun e3 => ?_)
          · unfold bX9_conditionsOf_78
            refine three 0 _ ern (Or.inr rfl) ⟨fun z => absurd z (by decide), fun ⟨k, hk, k1, j, j1, j2, j3⟩ => ?_⟩
            by_cases ek : k = n
            · subst ek; exact absurd (e3.symm.trans (v2.mpr ⟨j, j1, j2, j3⟩)) (by decide)
            · exact absurd ⟨k, by omega, k1, j, j1, j2, j3⟩ z2
          · unfold bX9_conditionsOf_73 bX9_conditionsOf_78
            refine three 1 _ ern (Or.inl rfl) ⟨fun _ => ?_, fun _ => rfl⟩
            obtain ⟨j, j1, j2, j3⟩ := v2.mp (v1.resolve_right e3)
            exact ⟨n, by omega, e, j, j1, j2, j3⟩
        · obtain ⟨k, hk, z⟩ := tw2.mp (tw1.resolve_right e2)
          unfold bX9_conditionsOf_73 bX9_conditionsOf_78
          exact three 1 _ ern (Or.inl rfl) ⟨fun _ => ⟨k, by omega, z⟩, fun _ => rfl⟩
      · refine three a4 _ (by rw [er, if_neg e]; omega) tw1 ⟨fun z => ?_, fun ⟨k, hk, k1, z⟩ => ?_⟩
        · obtain ⟨k, hk, y⟩ := tw2.mp z
          exact ⟨k, by omega, y⟩
        · by_cases ek : k = n
          · subst ek; exact absurd k1 e
          · exact tw2.mpr ⟨k, by omega, k1, z⟩
  obtain ⟨v, t, e, rfl, tw, eo, er, rfl, h⟩ := main
  exact ⟨tw, eo, er, e, h⟩
theorem zX11_conditionsOfWay {c : Int → Int} {w : Nat} {f g : Int → Int} {s : jMem} (h5 : yC5 c) (w4 : w ≤ 4) (hc : ∀ k : Int, 0 ≤ k → k < 5 → s 71 k = c k) (hw : s 53 20 = 4 - (w : Int)) (hf : ∀ q : Int, 0 ≤ q → q < 34 → s 68 q = f q ∧ 0 ≤ f q ∧ f q ≤ 100 ∧ s 69 q = g q ∧ 0 ≤ g q ∧ g q ≤ 100) : ∃ tw eo one : Int, fX11_conditionsOfWay s = some (yBits (yRn c 5) (yTh c w 5) tw eo one (c 0) w, s) ∧ (tw = 1 ∨ tw = 0) ∧ (tw = 1 ↔ yTw c 5) ∧ (eo = 1 ∨ eo = 0) ∧ (eo = 1 ↔ yEo c 5) ∧ (one = 1 ∨ one = 0) ∧ (one = 1 ↔ yOne (fun q => f q + g q)) := by
  have u := jik_m
  have main : jHo (fun v t => t = s ∧ ∃ tw eo one : Int, v = yBits (yRn c 5) (yTh c w 5) tw eo one (c 0) w ∧ (tw = 1 ∨ tw = 0) ∧ (tw = 1 ↔ yTw c 5) ∧ (eo = 1 ∨ eo = 0) ∧ (eo = 1 ↔ yEo c 5) ∧ (one = 1 ∨ one = 0) ∧ (one = 1 ↔ yOne (fun q => f q + g q))) (fX11_conditionsOfWay s) := by
    have p0 := h5.1
    unfold fX11_conditionsOfWay
    refine gIt6 (fun a1 a2 a3 a4 a5 t => t = s ∧ ∃ n : Nat, a5 = n ∧ n ≤ 5 ∧ a1 = yRn c n ∧ a2 = yTh c w n ∧ (a3 = 1 ∨ a3 = 0) ∧ (a3 = 1 ↔ yTw c n) ∧ (a4 = 1 ∨ a4 = 0) ∧ (a4 = 1 ↔ yEo c n)) (fun _ _ _ _ a5 => (5 - a5).toNat) ?_ 1000 0 0 0 1 0 s ⟨rfl, 0, rfl, by omega, rfl, rfl, Or.inr rfl, ⟨fun z => absurd z (by decide), fun ⟨k, z, _⟩ => by omega⟩, Or.inl rfl, ⟨fun _ k hk => by omega, fun _ => rfl⟩⟩ (by decide)
    rintro rec a1 a2 a3 a4 a5 t ⟨rfl, n, rfl, hn, rfl, rfl, tw1, tw2, eo1, eo2⟩ ih
    have rb : 0 ≤ yRn c n ∧ yRn c n ≤ n := yc_bd (P := fun k => c k / 100 = 1) n
    have tb : 0 ≤ yTh c w n ∧ yTh c w n ≤ n := yc_bd (P := fun k => c k / 100 = 2 ∧ k ≤ (w : Int)) n
    unfold bX11_conditionsOfWay_12
    refine gHo_if (fun hx => ?_) (fun hx => ?_)
    · have e : n = 5 := by omega
      subst e
      obtain ⟨one, o1, o2, o3⟩ := zX11_c142 (rn := yRn c 5) (th := yTh c w 5) (tw := a3) (eo := a4) p0 (hc 0 (by omega) (by omega)) hw hf
      rw [o3]
      exact gHo_some ⟨rfl, a3, a4, one, rfl, tw1, tw2, eo1, eo2, o1, o2⟩
    · have cb := yC5_bd h5 n (by omega) (by omega)
      have cn := hc n (by omega) (by omega)
      have er : yRn c (n + 1) = yRn c n + (if c n / 100 = 1 then 1 else 0) := rfl
      have et : yTh c w (n + 1) = yTh c w n + (if c n / 100 = 2 ∧ (n : Int) ≤ (w : Int) then 1 else 0) := rfl
      -- threes
      have three : ∀ x3 x4 : Int, (x3 = 1 ∨ x3 = 0) → (x3 = 1 ↔ yTw c (n + 1)) → (x4 = 1 ∨ x4 = 0) → (x4 = 1 ↔ yEo c (n + 1)) → ∀ rn, rn = yRn c (n + 1) → jHo (fun v t' => t' = t ∧ ∃ tw eo one : Int, v = yBits (yRn c 5) (yTh c w 5) tw eo one (c 0) w ∧ (tw = 1 ∨ tw = 0) ∧ (tw = 1 ↔ yTw c 5) ∧ (eo = 1 ∨ eo = 0) ∧ (eo = 1 ↔ yEo c 5) ∧ (one = 1 ∨ one = 0) ∧ (one = 1 ↔ yOne (fun q => f q + g q))) (bX11_conditionsOfWay_103 rec rn (yTh c w n) x3 x4 n t) := by
        intro x3 x4 h1 h2 h3 h4 rn hrn
        have fin : ∀ x : Int, x = (if c n / 100 = 2 ∧ (n : Int) ≤ (w : Int) then 1 else 0) → jHo (fun v t' => t' = t ∧ ∃ tw eo one : Int, v = yBits (yRn c 5) (yTh c w 5) tw eo one (c 0) w ∧ (tw = 1 ∨ tw = 0) ∧ (tw = 1 ↔ yTw c 5) ∧ (eo = 1 ∨ eo = 0) ∧ (eo = 1 ↔ yEo c 5) ∧ (one = 1 ∨ one = 0) ∧ (one = 1 ↔ yOne (fun q => f q + g q))) (bX11_conditionsOfWay_134 rec rn x3 x4 n (yTh c w n) x t) := by
          intro x hx
          have : 0 ≤ x ∧ x ≤ 1 := by rw [hx]; exact y01
          unfold bX11_conditionsOfWay_134
          exact gHo_l32 (by omega) (by omega) (gHo_l32 (by omega) (by omega) (ih _ _ _ _ _ _ ⟨rfl, n + 1, by omega, by omega, hrn, by rw [et, hx], h1, h2, h3, h4⟩ (by omega)))
        unfold bX11_conditionsOfWay_103
        refine gHo_gd ⟨by omega, by omega⟩ (gHo_let (gHo_gd (by decide) (gHo_let ?_)))
        rw [cn, jdiv_100 cb.1 (by omega)]
        refine gHo_if (fun e => ?_) (fun e => ?_)
        · refine gHo_let ?_
          rw [hw]
          refine gHo_l32 (by omega) (by omega) (gHo_if (fun e2 => ?_) (fun e2 => ?_))
          · unfold bX11_conditionsOfWay_133
            exact fin 0 (by rw [if_neg (by omega)])
          · exact fin 1 (by rw [if_pos (by omega)])
        · unfold bX11_conditionsOfWay_133
          exact fin 0 (by rw [if_neg (fun z => e z.1)])
      have mid : ∀ x4 : Int, (x4 = 1 ∨ x4 = 0) → (x4 = 1 ↔ yEo c (n + 1)) → jHo (fun v t' => t' = t ∧ ∃ tw eo one : Int, v = yBits (yRn c 5) (yTh c w 5) tw eo one (c 0) w ∧ (tw = 1 ∨ tw = 0) ∧ (tw = 1 ↔ yTw c 5) ∧ (eo = 1 ∨ eo = 0) ∧ (eo = 1 ↔ yEo c 5) ∧ (one = 1 ∨ one = 0) ∧ (one = 1 ↔ yOne (fun q => f q + g q))) (bX11_conditionsOfWay_41 rec (yRn c n) (yTh c w n) a3 n x4 t) := by
        intro x4 h3 h4
        unfold bX11_conditionsOfWay_41
        refine gHo_gd ⟨by omega, by omega⟩ (gHo_let (gHo_gd (by decide) (gHo_let ?_)))
        rw [cn, jdiv_100 cb.1 (by omega)]
        refine gHo_if (fun e => ?_) (fun e => ?_)
        · refine gHo_l32 (by omega) (by omega) ?_
          refine gIt7 (fun b1 b2 b3 b4 b5 b6 z => b1 = yRn c n + 1 ∧ b2 = yTh c w n ∧ b4 = x4 ∧ b5 = n ∧ z = t ∧ ∃ m : Nat, b6 = m ∧ 1 ≤ m ∧ (b3 = 1 ∨ b3 = 0) ∧ (b3 = 1 ↔ yTw c n ∨ ∃ j : Nat, 1 ≤ j ∧ j < m ∧ j < n ∧ c j = c n)) (fun _ _ _ _ _ b6 => (5 - b6).toNat) ?_ 1000 _ _ a3 x4 n 1 t ⟨rfl, rfl, rfl, rfl, rfl, 1, rfl, by omega, tw1, ⟨fun z => Or.inl (tw2.mp z), fun z => z.elim (fun y => tw2.mpr y) (fun ⟨j, j1, j2, _⟩ => by omega)⟩⟩ (by decide)
          rintro rec2 b1 b2 b3 b4 b5 b6 z ⟨rfl, rfl, rfl, rfl, rfl, m, rfl, m1, h1, h2⟩ ih2
          unfold bX11_conditionsOfWay_63
          refine gHo_if (fun e2 => ?_) (fun e2 => ?_)
          · refine three b3 b4 h1 ?_ h3 h4 _ (by rw [er, if_pos e])
            rw [h2]
            constructor
            · rintro (⟨k, hk, y⟩ | ⟨j, j1, j2, j3, j4⟩)
              · exact ⟨k, by omega, y⟩
              · exact ⟨n, by omega, e, j, j1, j3, j4⟩
            · rintro ⟨k, hk, k1, j, j1, j2, j3⟩
              by_cases ek : k = n
              · subst ek; exact Or.inr ⟨j, j1, by omega, j2, j3⟩
              · exact Or.inl ⟨k, by omega, k1, j, j1, j2, j3⟩
          · have hm5 : m < n := by omega
            have yes : (b3 = 1 ∨ c m = c n) → jHo (fun v t' => t' = z ∧ ∃ tw eo one : Int, v = yBits (yRn c 5) (yTh c w 5) tw eo one (c 0) w ∧ (tw = 1 ∨ tw = 0) ∧ (tw = 1 ↔ yTw c 5) ∧ (eo = 1 ∨ eo = 0) ∧ (eo = 1 ↔ yEo c 5) ∧ (one = 1 ∨ one = 0) ∧ (one = 1 ↔ yOne (fun q => f q + g q))) (bX11_conditionsOfWay_91 (bX11_conditionsOfWay_96 rec2) (yRn c n + 1) (yTh c w n) b4 n m z) := by
              intro hy
              unfold bX11_conditionsOfWay_91 bX11_conditionsOfWay_96
              refine gHo_l32 (by omega) (by omega) (ih2 _ _ _ _ _ _ _ ⟨rfl, rfl, rfl, rfl, rfl, m + 1, by omega, by omega, Or.inl rfl, fun _ => ?_, fun _ => rfl⟩ (by omega))
              rcases hy with hy | hy
              · rcases h2.mp hy with k | ⟨j, j1, j2, j3, j4⟩
                · exact Or.inl k
                · exact Or.inr ⟨j, j1, by omega, j3, j4⟩
              · exact Or.inr ⟨m, m1, by omega, hm5, hy⟩
            refine gHo_if (fun e3 => ?_) (fun e3 => yes (Or.inl (h1.resolve_right e3)))
            refine gHo_gd ⟨by omega, by omega⟩ (gHo_let (gHo_gd ⟨by omega, by omega⟩ (gHo_let ?_)))
            rw [hc m (by omega) (by omega), cn]
            refine gHo_if (fun e4 => yes (Or.inr e4)) (fun e4 => ?_)
            unfold bX11_conditionsOfWay_96
            refine gHo_l32 (by omega) (by omega) (ih2 _ _ _ _ _ _ _ ⟨rfl, rfl, rfl, rfl, rfl, m + 1, by omega, by omega, Or.inr rfl, fun y => absurd y (by decide), fun y => ?_⟩ (by omega))
            have n3 : ¬ (yTw c n ∨ ∃ j : Nat, 1 ≤ j ∧ j < m ∧ j < n ∧ c j = c n) := fun y => absurd (e3.symm.trans (h2.mpr y)) (by decide)
            rcases y with y | ⟨j, j1, j2, j3, j4⟩
            · exact absurd (Or.inl y) n3
            · by_cases ej : j = m
              · subst ej; exact absurd j4 e4
              · exact absurd (Or.inr ⟨j, j1, by omega, j3, j4⟩) n3
        · refine three a3 x4 tw1 ⟨fun z => ?_, fun ⟨k, hk, k1, z⟩ => ?_⟩ h3 h4 _ (by rw [er, if_neg e]; omega)
          · obtain ⟨k, hk, y⟩ := tw2.mp z
            exact ⟨k, by omega, y⟩
          · by_cases ek : k = n
            · subst ek; exact absurd k1 e
            · exact tw2.mpr ⟨k, by omega, k1, z⟩
      refine gHo_if (fun e => ?_) (fun e => ?_)
      · unfold bX11_conditionsOfWay_40
        exact mid 0 (Or.inr rfl) ⟨fun z => absurd z (by decide), fun z => absurd (e.symm.trans (eo2.mpr (fun k hk => z k (by omega)))) (by decide)⟩
      · have z1 := eo2.mp (eo1.resolve_right e)
        refine gHo_gd ⟨by omega, by omega⟩ (gHo_let ?_)
        rw [cn, zX11_hasOuter cb.1 (by omega) cb.2.2.2.2, jBd_s]
        by_cases o : yHo (c n)
        · rw [jb_1 o, if_neg (by decide)]
          refine mid 1 (Or.inl rfl) ⟨fun _ k hk => ?_, fun _ => rfl⟩
          by_cases ek : k = n
          · subst ek; exact o
          · exact z1 k (by omega)
        · rw [jb_0 o, if_pos rfl]
          unfold bX11_conditionsOfWay_40
          exact mid 0 (Or.inr rfl) ⟨fun z => absurd z (by decide), fun z => absurd (z n (by omega)) o⟩
  obtain ⟨v, t, e, rfl, tw, eo, one, rfl, h⟩ := main
  exact ⟨tw, eo, one, e, h⟩
end
