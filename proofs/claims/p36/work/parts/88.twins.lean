/-! ===== two desks alike but for what each has worked out: the acts change them alike ===== -/
section
/-- alike in all that is seen of the tiles -/
def qR (s t : jMem) : Prop := s 0 8 = t 0 8 ∧ (∀ q : Int, 0 ≤ q → q < 34 → s 3 q = t 3 q ∧ s 4 q = t 4 q) ∧ ∀ h : Int, 0 ≤ h → h < 4 → s (37 + 4 * h) 3 = t (37 + 4 * h) 3 ∧ s (37 + 4 * h) 4 = t (37 + 4 * h) 4 ∧ ∀ q : Int, 0 ≤ q → q < 34 → s (38 + 4 * h) q = t (38 + 4 * h) q ∧ s (39 + 4 * h) q = t (39 + 4 * h) q
theorem qR_rf (s : jMem) : qR s s := ⟨rfl, fun _ _ _ => ⟨rfl, rfl⟩, fun _ _ _ => ⟨rfl, rfl, fun _ _ _ => ⟨rfl, rfl⟩⟩⟩
theorem qR_sy {s t : jMem} (h : qR s t) : qR t s := ⟨h.1.symm, fun q a b => ⟨(h.2.1 q a b).1.symm, (h.2.1 q a b).2.symm⟩, fun g a b => ⟨(h.2.2 g a b).1.symm, (h.2.2 g a b).2.1.symm, fun q c d => ⟨((h.2.2 g a b).2.2 q c d).1.symm, ((h.2.2 g a b).2.2 q c d).2.symm⟩⟩⟩
theorem qR_tr {s t u : jMem} (h : qR s t) (k : qR t u) : qR s u := ⟨h.1.trans k.1, fun q a b => ⟨(h.2.1 q a b).1.trans (k.2.1 q a b).1, (h.2.1 q a b).2.trans (k.2.1 q a b).2⟩, fun g a b => ⟨(h.2.2 g a b).1.trans (k.2.2 g a b).1, (h.2.2 g a b).2.1.trans (k.2.2 g a b).2.1, fun q c d => ⟨((h.2.2 g a b).2.2 q c d).1.trans ((k.2.2 g a b).2.2 q c d).1, ((h.2.2 g a b).2.2 q c d).2.trans ((k.2.2 g a b).2.2 q c d).2⟩⟩⟩
theorem qR_eq {s t : jMem} (h : ∀ x : Int, x = 0 ∨ x = 3 ∨ x = 4 ∨ (37 ≤ x ∧ x < 53) → s x = t x) : qR s t := ⟨by rw [h 0 (by omega)], fun q _ _ => ⟨by rw [h 3 (by omega)], by rw [h 4 (by omega)]⟩, fun g a b => ⟨by rw [h _ (by omega)], by rw [h _ (by omega)], fun q _ _ => ⟨by rw [h _ (by omega)], by rw [h _ (by omega)]⟩⟩⟩
theorem jU_2 {s t : jMem} {r j v x y : Int} (h : s x y = t x y) : jU s r j v x y = jU t r j v x y := by
  unfold jU; split
  · rfl
  · exact h
theorem qR_U {s t : jMem} {r j v : Int} (h : qR s t) : qR (jU s r j v) (jU t r j v) := ⟨jU_2 h.1, fun q a b => ⟨jU_2 (h.2.1 q a b).1, jU_2 (h.2.1 q a b).2⟩, fun g a b => ⟨jU_2 (h.2.2 g a b).1, jU_2 (h.2.2 g a b).2.1, fun q c d => ⟨jU_2 ((h.2.2 g a b).2.2 q c d).1, jU_2 ((h.2.2 g a b).2.2 q c d).2⟩⟩⟩
/-- they answer alike, and stay alike -/
def oR (o p : jO) : Prop := ∀ v s, o = some (v, s) → ∃ t, p = some (v, t) ∧ qR s t
theorem oR_ret {v : Int} {s t : jMem} (h : qR s t) : oR (jRet v s) (jRet v t) := fun v' s' e => by
  unfold jRet at e ⊢
  injection e with e
  injection e with e1 e2
  subst e1 e2
  exact ⟨t, rfl, h⟩
theorem oR_none : oR none none := fun _ _ e => by cases e
theorem oR_gd {c : Prop} [Decidable c] {o p : jO} (h : c → oR o p) : oR (jGd c o) (jGd c p) := by
  unfold jGd
  split
  · rename_i hc; exact h hc
  · exact oR_none
theorem oR_if {c : Prop} [Decidable c] {a b a' b' : jO} (ht : c → oR a a') (hf : ¬ c → oR b b') : oR (if c then a else b) (if c then a' else b') := by
  split
  · rename_i hc; exact ht hc
  · rename_i hc; exact hf hc
theorem oR_let {α : Type} {v : α} {k k' : α → jO} (h : oR (k v) (k' v)) : oR (jLet v k) (jLet v k') := h
theorem oR_nm {α : Type} {v : α} {k k' : α → jO} (h : ∀ x, x = v → oR (k x) (k' x)) : oR (jLet v k) (jLet v k') := h v rfl
theorem oR_rd {x y : Int} {k k' : Int → jO} (e : x = y) (h : ∀ z, z = x → oR (k z) (k' z)) : oR (jLet x k) (jLet y k') := by
  subst e; exact h x rfl
theorem oR_st {s t : jMem} {r j v : Int} {k k' : jMem → jO} (h : qR s t) (hk : ∀ s' t', qR s' t' → oR (k s') (k' t')) : oR (jLet (jU s r j v) k) (jLet (jU t r j v) k') := hk _ _ (qR_U h)
theorem oR_bd {o p : jO} {K K' : Int → jMem → jO} (h : oR o p) (hk : ∀ v s t, qR s t → oR (K v s) (K' v t)) : oR (jBd o K) (jBd p K') := by
  intro v s e
  unfold jBd at e ⊢
  cases ho : o with
  | none => rw [ho] at e; cases e
  | some q =>
    rw [ho] at e
    obtain ⟨t, h1, h2⟩ := h q.1 q.2 ho
    rw [h1]
    exact hk q.1 q.2 t h2 v s e
theorem oR_it {A S : Type} (ap : A → S → jMem → jO) (I : S → Prop) {bot : A} {b : A → A} (hbot : ∀ x s, ap bot x s = none) (hb : ∀ rec, (∀ y s t, I y → qR s t → oR (ap rec y s) (ap rec y t)) → ∀ x s t, I x → qR s t → oR (ap (b rec) x s) (ap (b rec) x t)) : ∀ n x s t, I x → qR s t → oR (ap (jIt bot b n) x s) (ap (jIt bot b n) x t) := by
  intro n
  induction n with
  | zero => intro x s t _ _; show oR (ap bot x s) (ap bot x t); rw [hbot, hbot]; exact oR_none
  | succ n ih => intro x s t hx h; exact hb _ ih x s t hx h
theorem oR_it1 {b : (Int → jMem → jO) → Int → jMem → jO} (I : Int → Prop) (hb : ∀ rec, (∀ y1 s t, I y1 → qR s t → oR (rec y1 s) (rec y1 t)) → ∀ x1 s t, I x1 → qR s t → oR (b rec x1 s) (b rec x1 t)) (n : Nat) (x1 : Int) {s t : jMem} (hi : I x1) (h : qR s t) : oR (jIt (fun _ _ => none) b n x1 s) (jIt (fun _ _ => none) b n x1 t) :=
  oR_it (S := Int) (fun f x s => f x s) (fun x => I x) (bot := (fun _ _ => none)) (fun _ _ => rfl) (fun rec k x s t hx h => hb rec (fun y1 s t hy h => k y1 s t hy h) x s t hx h) n x1 s t hi h
theorem oR_it2 {b : (Int → Int → jMem → jO) → Int → Int → jMem → jO} (I : Int → Int → Prop) (hb : ∀ rec, (∀ y1 y2 s t, I y1 y2 → qR s t → oR (rec y1 y2 s) (rec y1 y2 t)) → ∀ x1 x2 s t, I x1 x2 → qR s t → oR (b rec x1 x2 s) (b rec x1 x2 t)) (n : Nat) (x1 x2 : Int) {s t : jMem} (hi : I x1 x2) (h : qR s t) : oR (jIt (fun _ _ _ => none) b n x1 x2 s) (jIt (fun _ _ _ => none) b n x1 x2 t) :=
  oR_it (S := Int × Int) (fun f x s => f x.1 x.2 s) (fun x => I x.1 x.2) (bot := (fun _ _ _ => none)) (fun _ _ => rfl) (fun rec k x s t hx h => hb rec (fun y1 y2 s t hy h => k (y1, y2) s t hy h) x.1 x.2 s t hx h) n (x1, x2) s t hi h
theorem oR_it3 {b : (Int → Int → Int → jMem → jO) → Int → Int → Int → jMem → jO} (I : Int → Int → Int → Prop) (hb : ∀ rec, (∀ y1 y2 y3 s t, I y1 y2 y3 → qR s t → oR (rec y1 y2 y3 s) (rec y1 y2 y3 t)) → ∀ x1 x2 x3 s t, I x1 x2 x3 → qR s t → oR (b rec x1 x2 x3 s) (b rec x1 x2 x3 t)) (n : Nat) (x1 x2 x3 : Int) {s t : jMem} (hi : I x1 x2 x3) (h : qR s t) : oR (jIt (fun _ _ _ _ => none) b n x1 x2 x3 s) (jIt (fun _ _ _ _ => none) b n x1 x2 x3 t) :=
  oR_it (S := Int × Int × Int) (fun f x s => f x.1 x.2.1 x.2.2 s) (fun x => I x.1 x.2.1 x.2.2) (bot := (fun _ _ _ _ => none)) (fun _ _ => rfl) (fun rec k x s t hx h => hb rec (fun y1 y2 y3 s t hy h => k (y1, y2, y3) s t hy h) x.1 x.2.1 x.2.2 s t hx h) n (x1, x2, x3) s t hi h
theorem oR_it4 {b : (Int → Int → Int → Int → jMem → jO) → Int → Int → Int → Int → jMem → jO} (I : Int → Int → Int → Int → Prop) (hb : ∀ rec, (∀ y1 y2 y3 y4 s t, I y1 y2 y3 y4 → qR s t → oR (rec y1 y2 y3 y4 s) (rec y1 y2 y3 y4 t)) → ∀ x1 x2 x3 x4 s t, I x1 x2 x3 x4 → qR s t → oR (b rec x1 x2 x3 x4 s) (b rec x1 x2 x3 x4 t)) (n : Nat) (x1 x2 x3 x4 : Int) {s t : jMem} (hi : I x1 x2 x3 x4) (h : qR s t) : oR (jIt (fun _ _ _ _ _ => none) b n x1 x2 x3 x4 s) (jIt (fun _ _ _ _ _ => none) b n x1 x2 x3 x4 t) :=
  oR_it (S := Int × Int × Int × Int) (fun f x s => f x.1 x.2.1 x.2.2.1 x.2.2.2 s) (fun x => I x.1 x.2.1 x.2.2.1 x.2.2.2) (bot := (fun _ _ _ _ _ => none)) (fun _ _ => rfl) (fun rec k x s t hx h => hb rec (fun y1 y2 y3 y4 s t hy h => k (y1, y2, y3, y4) s t hy h) x.1 x.2.1 x.2.2.1 x.2.2.2 s t hx h) n (x1, x2, x3, x4) s t hi h
theorem oR_it5 {b : (Int → Int → Int → Int → Int → jMem → jO) → Int → Int → Int → Int → Int → jMem → jO} (I : Int → Int → Int → Int → Int → Prop) (hb : ∀ rec, (∀ y1 y2 y3 y4 y5 s t, I y1 y2 y3 y4 y5 → qR s t → oR (rec y1 y2 y3 y4 y5 s) (rec y1 y2 y3 y4 y5 t)) → ∀ x1 x2 x3 x4 x5 s t, I x1 x2 x3 x4 x5 → qR s t → oR (b rec x1 x2 x3 x4 x5 s) (b rec x1 x2 x3 x4 x5 t)) (n : Nat) (x1 x2 x3 x4 x5 : Int) {s t : jMem} (hi : I x1 x2 x3 x4 x5) (h : qR s t) : oR (jIt (fun _ _ _ _ _ _ => none) b n x1 x2 x3 x4 x5 s) (jIt (fun _ _ _ _ _ _ => none) b n x1 x2 x3 x4 x5 t) :=
  oR_it (S := Int × Int × Int × Int × Int) (fun f x s => f x.1 x.2.1 x.2.2.1 x.2.2.2.1 x.2.2.2.2 s) (fun x => I x.1 x.2.1 x.2.2.1 x.2.2.2.1 x.2.2.2.2) (bot := (fun _ _ _ _ _ _ => none)) (fun _ _ => rfl) (fun rec k x s t hx h => hb rec (fun y1 y2 y3 y4 y5 s t hy h => k (y1, y2, y3, y4, y5) s t hy h) x.1 x.2.1 x.2.2.1 x.2.2.2.1 x.2.2.2.2 s t hx h) n (x1, x2, x3, x4, x5) s t hi h
variable {s t : jMem}
theorem rX10_isHand (h : Int) (k : qR s t) : oR (fX10_isHand h s) (fX10_isHand h t) := oR_if (fun _ => oR_ret k) (fun _ => oR_if (fun _ => oR_ret k) (fun _ => oR_ret k))
theorem rX8_isSort (h : Int) (k : qR s t) : oR (fX8_isSort h s) (fX8_isSort h t) := oR_if (fun _ => oR_ret k) (fun _ => oR_if (fun _ => oR_ret k) (fun _ => oR_ret k))
theorem rX8_startsRun (h : Int) (k : qR s t) : oR (fX8_startsRun h s) (fX8_startsRun h t) := oR_if (fun _ => oR_ret k) (fun _ => oR_gd (fun _ => oR_let (oR_if (fun _ => oR_ret k) (fun _ => oR_ret k))))
theorem rX0_code (a b : Int) (k : qR s t) : oR (fX0_code a b s) (fX0_code a b t) := oR_let (oR_let (oR_ret k))
theorem rX0_tilesAlike (a : Int) (k : qR s t) : oR (fX0_tilesAlike a s) (fX0_tilesAlike a t) := oR_let (oR_ret k)
variable {h : Int}
theorem rX1_size (h0 : 0 ≤ h) (h4 : h < 4) (k : qR s t) : oR (fX1_size (37 + 4 * h) s) (fX1_size (37 + 4 * h) t) := by
  unfold fX1_size
  exact oR_gd (fun _ => oR_rd (k.2.2 h h0 h4).1 (fun _ _ => oR_rd (k.2.2 h h0 h4).2.1 (fun _ _ => oR_let (oR_let (oR_ret k)))))
theorem rX1_isFull (h0 : 0 ≤ h) (h4 : h < 4) (k : qR s t) : oR (fX1_isFull (37 + 4 * h) s) (fX1_isFull (37 + 4 * h) t) := by
  unfold fX1_isFull
  exact oR_gd (fun _ => oR_bd (rX1_size h0 h4 k) (fun _ _ _ k => oR_if (fun _ => oR_ret k) (fun _ => oR_ret k)))
theorem rX1_gain (q : Int) (h0 : 0 ≤ h) (h4 : h < 4) (k : qR s t) : oR (fX1_gain (37 + 4 * h) q s) (fX1_gain (37 + 4 * h) q t) := by
  obtain ⟨t0, t1, t2, t3, t4, t5, t6, t7, t8, t9⟩ := jh_t h0 h4
  unfold fX1_gain
  refine oR_gd (fun _ => oR_let ?_)
  rw [t2]
  exact oR_gd (fun c => oR_rd ((k.2.2 h h0 h4).2.2 q (by omega) (by omega)).1 (fun _ _ => oR_let (oR_gd (fun _ => oR_st k (fun s t k => oR_rd (k.2.2 h h0 h4).1 (fun _ _ => oR_let (oR_st k (fun s t k => oR_ret k))))))))
theorem rX1_lose (q : Int) (h0 : 0 ≤ h) (h4 : h < 4) (k : qR s t) : oR (fX1_lose (37 + 4 * h) q s) (fX1_lose (37 + 4 * h) q t) := by
  obtain ⟨t0, t1, t2, t3, t4, t5, t6, t7, t8, t9⟩ := jh_t h0 h4
  unfold fX1_lose
  refine oR_gd (fun _ => oR_let ?_)
  rw [t2]
  exact oR_gd (fun c => oR_rd ((k.2.2 h h0 h4).2.2 q (by omega) (by omega)).1 (fun _ _ => oR_let (oR_gd (fun _ => oR_st k (fun s t k => oR_rd (k.2.2 h h0 h4).1 (fun _ _ => oR_let (oR_st k (fun s t k => oR_ret k))))))))
theorem rX8_sum (r : Int) (hr : ∀ s t : jMem, qR s t → ∀ q : Int, 0 ≤ q → q < jik r → s r q = t r q) (k : qR s t) : oR (fX8_sum r s) (fX8_sum r t) := by
  unfold fX8_sum
  refine oR_gd (fun _ => oR_let ?_)
  refine oR_it4 (fun _ l2 _ _ => l2 = r) (fun rec ih x1 x2 x3 x4 s t hx k => ?_) 1000 _ _ _ _ rfl k
  subst hx
  unfold bX8_sum_10
  exact oR_if (fun _ => oR_ret k) (fun _ => oR_gd (fun c => oR_rd (hr s t k x4 c.1 c.2) (fun _ _ => oR_let (oR_let (ih _ _ _ _ _ _ rfl k)))))
theorem rJ7_fill (r v : Int) (k : qR s t) : oR (fJ7_fill_53178 r v s) (fJ7_fill_53178 r v t) := by
  unfold fJ7_fill_53178
  refine oR_gd (fun _ => oR_let ?_)
  refine oR_it4 (fun _ _ _ _ => True) (fun rec ih x1 x2 x3 x4 s t _ k => ?_) 1000 _ _ _ _ trivial k
  unfold bJ7_fill_53178_5
  exact oR_if (fun _ => oR_ret k) (fun _ => oR_gd (fun _ => oR_st k (fun s t k => oR_let (ih _ _ _ _ _ _ trivial k))))
theorem rX10_drawNext (h0 : 0 ≤ h) (h4 : h < 4) (k : qR s t) : oR (fX10_drawNext (37 + 4 * h) s) (fX10_drawNext (37 + 4 * h) t) := by
  obtain ⟨u3, u4, -⟩ := jik_t
  unfold fX10_drawNext
  refine oR_bd (rX8_sum 3 (fun s t k q q0 q1 => (k.2.1 q q0 (by omega)).1) k) (fun v s t k => oR_if (fun _ => oR_ret k) (fun _ => oR_rd k.1 (fun _ _ => oR_let (oR_let (oR_let (oR_let (oR_st k (fun s t k => oR_rd k.1 (fun _ _ => oR_gd (fun _ => oR_let (oR_gd (fun _ => oR_let ?_))))))))))))
  refine oR_it3 (fun l1 _ _ => l1 = 37 + 4 * h) (fun rec ih x1 x2 x3 s t hx k => ?_) 1000 _ _ _ rfl k
  subst hx
  unfold bX10_drawNext_50
  refine oR_if (fun _ => oR_ret k) (fun _ => oR_gd (fun c => oR_rd (k.2.1 x3 c.1 (by omega)).1 (fun _ _ => oR_if (fun _ => oR_gd (fun c => oR_rd (k.2.1 x3 c.1 (by omega)).1 (fun _ _ => oR_let (oR_let (ih _ _ _ _ _ rfl k))))) (fun _ => ?_))))
  unfold bX10_drawNext_68
  exact oR_gd (fun c => oR_rd (k.2.1 x3 c.1 (by omega)).1 (fun _ _ => oR_let (oR_gd (fun _ => oR_st k (fun s t k => oR_gd (fun _ => oR_bd (rX1_gain x3 h0 h4 k) (fun _ _ _ k => oR_ret k)))))))
theorem rX10_draw (x : Int) (k : qR s t) : oR (fX10_draw x s) (fX10_draw x t) := by
  have w := jrk_t
  unfold fX10_draw
  refine oR_bd (rX10_isHand x k) (fun v s t k => oR_if (fun _ => oR_ret k) (fun _ => oR_gd (fun c => ?_)))
  obtain ⟨t0, t1, t2, t3, t4, t5, t6, t7, t8, t9⟩ := jh_t (h := x) c.1 (by omega)
  have x4 : x < 4 := by omega
  refine oR_let ?_
  rw [t0]
  refine oR_gd (fun _ => oR_bd (rX1_isFull c.1 x4 k) (fun _ _ _ k => oR_if (fun _ => oR_gd (fun _ => oR_let (oR_bd (rX10_drawNext c.1 x4 k) (fun _ _ _ k => oR_ret k)))) (fun _ => oR_ret k)))
theorem rX10_take (x q : Int) (k : qR s t) : oR (fX10_take x q s) (fX10_take x q t) := by
  have w := jrk_t
  obtain ⟨u3, u4, -⟩ := jik_t
  unfold fX10_take
  refine oR_bd (rX10_isHand x k) (fun v s t k => oR_if (fun _ => oR_ret k) (fun _ => oR_bd (rX8_isSort q k) (fun v s t k => oR_if (fun _ => oR_ret k) (fun _ => oR_gd (fun c => ?_)))))
  obtain ⟨t0, t1, t2, t3, t4, t5, t6, t7, t8, t9⟩ := jh_t (h := x) c.1 (by omega)
  have x4 : x < 4 := by omega
  refine oR_let ?_
  rw [t0]
  refine oR_gd (fun _ => oR_bd (rX1_isFull c.1 x4 k) (fun _ _ _ k => oR_if (fun _ => ?_) (fun _ => oR_ret k)))
  refine oR_gd (fun c2 => oR_rd (k.2.1 q c2.1 (by omega)).1 (fun _ _ => oR_if (fun _ => oR_ret k) (fun _ => ?_)))
  refine oR_gd (fun c2 => oR_rd (k.2.1 q c2.1 (by omega)).1 (fun _ _ => oR_let (oR_gd (fun _ => oR_st k (fun _ _ k => ?_)))))
  refine oR_gd (fun _ => oR_let (oR_gd (fun _ => oR_bd (rX1_gain q c.1 x4 k) (fun _ _ _ k => ?_))))
  exact oR_gd (fun _ => oR_let (oR_gd (fun _ => oR_bd (rX1_size c.1 x4 k) (fun _ _ _ k => oR_ret k))))
theorem rX10_discard (x q : Int) (k : qR s t) : oR (fX10_discard x q s) (fX10_discard x q t) := by
  have w := jrk_t
  obtain ⟨u3, u4, -⟩ := jik_t
  unfold fX10_discard
  refine oR_bd (rX10_isHand x k) (fun v s t k => oR_if (fun _ => oR_ret k) (fun _ => oR_bd (rX8_isSort q k) (fun v s t k => oR_if (fun _ => oR_ret k) (fun _ => oR_gd (fun c => ?_)))))
  obtain ⟨t0, t1, t2, t3, t4, t5, t6, t7, t8, t9⟩ := jh_t (h := x) c.1 (by omega)
  have x4 : x < 4 := by omega
  refine oR_let ?_
  rw [t0]
  refine oR_gd (fun _ => oR_let ?_)
  rw [t2]
  refine oR_gd (fun c2 => oR_rd ((k.2.2 x c.1 x4).2.2 q c2.1 (by omega)).1 (fun _ _ => oR_if (fun _ => oR_ret k) (fun _ => oR_gd (fun _ => oR_let ?_))))
  refine oR_gd (fun _ => oR_bd (rX1_lose q c.1 x4 k) (fun _ _ _ k => oR_gd (fun c2 => oR_rd (k.2.1 q c2.1 (by omega)).2 (fun _ _ => oR_let (oR_gd (fun _ => oR_st k (fun _ _ k => ?_)))))))
  exact oR_gd (fun _ => oR_let (oR_gd (fun _ => oR_bd (rX1_size c.1 x4 k) (fun _ _ _ k => oR_ret k))))
theorem rX1_giveBack (h0 : 0 ≤ h) (h4 : h < 4) (k : qR s t) : oR (fX1_giveBack (37 + 4 * h) 3 s) (fX1_giveBack (37 + 4 * h) 3 t) := by
  obtain ⟨t0, t1, t2, t3, t4, t5, t6, t7, t8, t9⟩ := jh_t h0 h4
  obtain ⟨u3, u4, -⟩ := jik_t
  unfold fX1_giveBack
  refine oR_gd (fun _ => oR_let ?_)
  rw [t2]
  refine oR_bd (rX8_sum _ (fun s t k q q0 q1 => ((k.2.2 h h0 h4).2.2 q q0 (by omega)).1) k) (fun v s t k => oR_let ?_)
  rw [t3]
  refine oR_bd (rX8_sum _ (fun s t k q q0 q1 => ((k.2.2 h h0 h4).2.2 q q0 (by omega)).2) k) (fun v s t k => oR_let ?_)
  refine oR_it4 (fun l0 l1 _ _ => l0 = 37 + 4 * h ∧ l1 = 3) (fun rec ih x1 x2 x3 x4 s t hx k => ?_) 1000 _ _ _ _ ⟨rfl, rfl⟩ k
  obtain ⟨rfl, rfl⟩ := hx
  unfold bX1_giveBack_18
  refine oR_if (fun _ => ?_) (fun _ => oR_gd (fun c => oR_rd (k.2.1 x4 c.1 (by omega)).1 (fun _ _ => oR_gd (fun _ => oR_let ?_))))
  · unfold bX1_giveBack_49
    refine oR_gd (fun _ => oR_let ?_)
    rw [t2]
    refine oR_bd (rJ7_fill _ _ k) (fun _ _ _ k => oR_let ?_)
    rw [t3]
    exact oR_bd (rJ7_fill _ _ k) (fun _ _ _ k => oR_st k (fun _ _ k => oR_st k (fun _ _ k => oR_ret k)))
  · rw [t2]
    refine oR_gd (fun c => oR_rd ((k.2.2 h h0 h4).2.2 x4 c.1 (by omega)).1 (fun _ _ => oR_let ?_))
    rw [t3]
    exact oR_gd (fun c => oR_rd ((k.2.2 h h0 h4).2.2 x4 c.1 (by omega)).2 (fun _ _ => oR_let (oR_let (oR_gd (fun _ => oR_st k (fun _ _ k => oR_let (ih _ _ _ _ _ _ ⟨rfl, rfl⟩ k)))))))
theorem rX10_clear (x : Int) (k : qR s t) : oR (fX10_clear x s) (fX10_clear x t) := by
  have w := jrk_t
  unfold fX10_clear
  refine oR_bd (rX10_isHand x k) (fun v s t k => oR_if (fun _ => oR_ret k) (fun _ => oR_gd (fun c => ?_)))
  obtain ⟨t0, t1, t2, t3, t4, t5, t6, t7, t8, t9⟩ := jh_t (h := x) c.1 (by omega)
  have x4 : x < 4 := by omega
  refine oR_let ?_
  rw [t0]
  exact oR_gd (fun _ => oR_bd (rX1_giveBack c.1 x4 k) (fun _ _ _ k => oR_ret k))
theorem rX1_canLay (a q : Int) (h0 : 0 ≤ h) (h4 : h < 4) (k : qR s t) : oR (fX1_canLay (37 + 4 * h) a q s) (fX1_canLay (37 + 4 * h) a q t) := by
  obtain ⟨t0, t1, t2, t3, t4, t5, t6, t7, t8, t9⟩ := jh_t h0 h4
  unfold fX1_canLay
  rw [t2]
  have rd : ∀ y : Int, 0 ≤ y ∧ y < jik (38 + 4 * h) → s (38 + 4 * h) y = t (38 + 4 * h) y := fun y c => ((k.2.2 h h0 h4).2.2 y c.1 (by omega)).1
  refine oR_gd (fun _ => oR_rd (k.2.2 h h0 h4).2.1 (fun _ _ => oR_if (fun _ => oR_if (fun _ => ?_) (fun _ => ?_)) (fun _ => oR_ret k)))
  · refine oR_let (oR_gd (fun c => oR_rd (rd _ c) (fun _ _ => oR_if (fun _ => oR_ret k) (fun _ => ?_))))
    refine oR_let (oR_let (oR_gd (fun c => oR_rd (rd _ c) (fun _ _ => oR_if (fun _ => oR_ret k) (fun _ => ?_)))))
    exact oR_let (oR_let (oR_gd (fun c => oR_rd (rd _ c) (fun _ _ => oR_if (fun _ => oR_ret k) (fun _ => oR_ret k)))))
  · exact oR_let (oR_gd (fun c => oR_rd (rd _ c) (fun _ _ => oR_bd (rX0_tilesAlike a k) (fun _ _ _ k => oR_if (fun _ => oR_ret k) (fun _ => oR_ret k)))))
theorem rX1_lay (a q : Int) (h0 : 0 ≤ h) (h4 : h < 4) (k : qR s t) : oR (fX1_lay (37 + 4 * h) a q s) (fX1_lay (37 + 4 * h) a q t) := by
  obtain ⟨t0, t1, t2, t3, t4, t5, t6, t7, t8, t9⟩ := jh_t h0 h4
  have main : ∀ (n : Int) {s t : jMem}, qR s t → oR (bX1_lay_13 (37 + 4 * h) a q n s) (bX1_lay_13 (37 + 4 * h) a q n t) := by
    intro n s t k
    unfold bX1_lay_13
    refine oR_it5 (fun l0 _ _ _ _ => l0 = 37 + 4 * h) (fun rec ih x1 x2 x3 x4 x5 s t hx k => ?_) 1000 _ _ _ _ _ rfl k
    subst hx
    have lay36 : ∀ (y : Int) {s t : jMem}, qR s t → oR (bX1_lay_36 rec (37 + 4 * h) x2 x3 x4 x5 y s) (bX1_lay_36 rec (37 + 4 * h) x2 x3 x4 x5 y t) := by
      intro y s t k
      unfold bX1_lay_36
      refine oR_gd (fun _ => oR_bd (rX1_lose y h0 h4 k) (fun _ _ _ k => oR_let ?_))
      rw [t3]
      exact oR_gd (fun c => oR_rd ((k.2.2 h h0 h4).2.2 y c.1 (by omega)).2 (fun _ _ => oR_let (oR_gd (fun _ => oR_st k (fun _ _ k => oR_let (ih _ _ _ _ _ _ _ rfl k))))))
    unfold bX1_lay_17
    refine oR_if (fun _ => ?_) (fun _ => oR_if (fun _ => oR_let (lay36 _ k)) (fun _ => lay36 _ k))
    unfold bX1_lay_61
    exact oR_gd (fun _ => oR_let (oR_rd (k.2.2 h h0 h4).2.1 (fun _ _ => oR_bd (rX0_code _ _ k) (fun _ _ _ k => oR_gd (fun _ => oR_st k (fun _ _ k => oR_rd (k.2.2 h h0 h4).2.1 (fun _ _ => oR_let (oR_st k (fun _ _ k => oR_ret k)))))))))
  unfold fX1_lay
  exact oR_if (fun _ => main _ k) (fun _ => oR_bd (rX0_tilesAlike a k) (fun _ _ _ k => main _ k))
theorem rX10_open (x a q : Int) (k : qR s t) : oR (fX10_open x a q s) (fX10_open x a q t) := by
  have w := jrk_t
  have o40 : ∀ {s t : jMem}, qR s t → oR (bX10_open_40 x a q s) (bX10_open_40 x a q t) := by
    intro s t k
    unfold bX10_open_40
    refine oR_gd (fun c => ?_)
    obtain ⟨t0, t1, t2, t3, t4, t5, t6, t7, t8, t9⟩ := jh_t (h := x) c.1 (by omega)
    have x4 : x < 4 := by omega
    refine oR_let ?_
    rw [t0]
    refine oR_gd (fun _ => oR_bd (rX1_canLay a q c.1 x4 k) (fun _ _ _ k => oR_if (fun _ => oR_ret k) (fun _ => oR_gd (fun _ => oR_let ?_))))
    refine oR_gd (fun _ => oR_bd (rX1_lay a q c.1 x4 k) (fun _ _ _ k => oR_gd (fun _ => oR_let ?_)))
    exact oR_gd (fun _ => oR_rd (k.2.2 x c.1 x4).2.1 (fun _ _ => oR_ret k))
  unfold fX10_open
  exact oR_bd (rX10_isHand x k) (fun v s t k => oR_if (fun _ => oR_ret k) (fun _ => oR_bd (rX8_isSort q k) (fun v s t k => oR_if (fun _ => oR_ret k) (fun _ => oR_if (fun _ => oR_ret k) (fun _ => oR_if (fun _ => oR_if (fun _ => oR_bd (rX8_startsRun q k) (fun _ _ _ k => oR_if (fun _ => oR_ret k) (fun _ => o40 k))) (fun _ => o40 k)) (fun _ => oR_ret k))))))
theorem rX10_deal56 (k : qR s t) : oR (jIt (fun _ _ => none) bX10_deal_56 1000 0 s) (jIt (fun _ _ => none) bX10_deal_56 1000 0 t) := by
  have w := jrk_t
  refine oR_it1 (fun _ => True) (fun rec ih x1 s t _ k => ?_) 1000 0 trivial k
  unfold bX10_deal_56
  refine oR_if (fun _ => oR_ret k) (fun _ => ?_)
  refine oR_it2 (fun _ _ => True) (fun rec2 ih2 y1 y2 s t _ k => ?_) 1000 _ 0 trivial k
  unfold bX10_deal_63
  refine oR_if (fun _ => oR_let (ih _ _ _ trivial k)) (fun _ => oR_gd (fun c => ?_))
  obtain ⟨t0, t1, t2, t3, t4, t5, t6, t7, t8, t9⟩ := jh_t (h := y1) c.1 (by omega)
  refine oR_let ?_
  rw [t0]
  exact oR_bd (rX10_drawNext c.1 (by omega) k) (fun _ _ _ k => oR_let (ih2 _ _ _ _ trivial k))
theorem rX10_deal (v : Int) (k : qR s t) : oR (fX10_deal v s) (fX10_deal v t) := by
  have w := jrk_t
  unfold fX10_deal
  refine oR_if (fun _ => oR_st k (fun s t k => ?_)) (fun _ => oR_ret k)
  refine oR_it1 (fun _ => True) (fun rec ih x1 s t _ k => ?_) 1000 0 trivial k
  unfold bX10_deal_13
  refine oR_if (fun _ => ?_) (fun _ => oR_gd (fun c => ?_))
  · unfold bX10_deal_38
    exact oR_bd (rJ7_fill _ _ k) (fun _ _ _ k => oR_bd (rJ7_fill _ _ k) (fun _ _ _ k => rX10_deal56 k))
  · obtain ⟨t0, t1, t2, t3, t4, t5, t6, t7, t8, t9⟩ := jh_t (h := x1) c.1 (by omega)
    refine oR_let ?_
    rw [t0]
    exact oR_gd (fun _ => oR_bd (rX1_giveBack c.1 (by omega) k) (fun _ _ _ k => oR_let (ih _ _ _ trivial k)))
end
