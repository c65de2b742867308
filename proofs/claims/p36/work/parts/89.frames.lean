/-! ===== the reference's acts leave the class's cells ===== -/
section
def kP (s : jMem) (o : jO) : Prop := ∀ v t, o = some (v, t) → ∀ x : Int, x < 53 → t x = s x
variable {s t : jMem}
theorem kP_ret {v : Int} (h : ∀ x : Int, x < 53 → t x = s x) : kP s (jRet v t) := fun v' t' e => by
  unfold jRet at e
  injection e with e
  injection e with _ e2
  subst e2; exact h
theorem kP_none : kP s none := fun _ _ e => by cases e
theorem kP_gd {c : Prop} [Decidable c] {o : jO} (h : c → kP s o) : kP s (jGd c o) := by
  unfold jGd
  split
  · rename_i hc; exact h hc
  · exact kP_none
theorem kP_if {c : Prop} [Decidable c] {a b : jO} (ht : c → kP s a) (hf : ¬ c → kP s b) : kP s (if c then a else b) := by
  split
  · rename_i hc; exact ht hc
  · rename_i hc; exact hf hc
theorem kP_let {α : Type} {v : α} {k : α → jO} (h : kP s (k v)) : kP s (jLet v k) := h
theorem kP_st {r j v : Int} {k : jMem → jO} (hr : 53 ≤ r) (h : ∀ x : Int, x < 53 → t x = s x) (hk : ∀ t', (∀ x : Int, x < 53 → t' x = s x) → kP s (k t')) : kP s (jLet (jU t r j v) k) := hk _ (fun x hx => by rw [jU_row (by omega)]; exact h x hx)
theorem kP_bd {o : jO} {K : Int → jMem → jO} (h : kP s o) (hk : ∀ v t, (∀ x : Int, x < 53 → t x = s x) → kP s (K v t)) : kP s (jBd o K) := by
  intro v u e
  unfold jBd at e
  cases ho : o with
  | none => rw [ho] at e; cases e
  | some q =>
    rw [ho] at e
    exact hk q.1 q.2 (h q.1 q.2 ho) v u e
theorem kP_call {o : jO} (h : ∀ x : Int, x < 53 → t x = s x) (k : kP t o) : kP s o := fun v u e x hx => by rw [k v u e x hx, h x hx]
theorem kP_it {A S : Type} (ap : A → S → jMem → jO) {bot : A} {b : A → A} (hbot : ∀ x s, ap bot x s = none) (hb : ∀ rec, (∀ y t, (∀ x : Int, x < 53 → t x = s x) → kP s (ap rec y t)) → ∀ x t, (∀ x : Int, x < 53 → t x = s x) → kP s (ap (b rec) x t)) : ∀ n x t, (∀ x : Int, x < 53 → t x = s x) → kP s (ap (jIt bot b n) x t) := by
  intro n
  induction n with
  | zero => intro x t _; show kP s (ap bot x t); rw [hbot]; exact kP_none
  | succ n ih => intro x t h; exact hb _ ih x t h
theorem kP_it1 {b : (Int → jMem → jO) → Int → jMem → jO} (hb : ∀ rec, (∀ y1 t, (∀ x : Int, x < 53 → t x = s x) → kP s (rec y1 t)) → ∀ x1 t, (∀ x : Int, x < 53 → t x = s x) → kP s (b rec x1 t)) (n : Nat) (x1 : Int) (h : ∀ x : Int, x < 53 → t x = s x) : kP s (jIt (fun _ _ => none) b n x1 t) :=
  kP_it (S := Int) (fun f x s => f x s) (bot := (fun _ _ => none)) (fun _ _ => rfl) (fun rec k x t h => hb rec (fun y1 t h => k y1 t h) x t h) n x1 t h
theorem kP_it2 {b : (Int → Int → jMem → jO) → Int → Int → jMem → jO} (hb : ∀ rec, (∀ y1 y2 t, (∀ x : Int, x < 53 → t x = s x) → kP s (rec y1 y2 t)) → ∀ x1 x2 t, (∀ x : Int, x < 53 → t x = s x) → kP s (b rec x1 x2 t)) (n : Nat) (x1 x2 : Int) (h : ∀ x : Int, x < 53 → t x = s x) : kP s (jIt (fun _ _ _ => none) b n x1 x2 t) :=
  kP_it (S := Int × Int) (fun f x s => f x.1 x.2 s) (bot := (fun _ _ _ => none)) (fun _ _ => rfl) (fun rec k x t h => hb rec (fun y1 y2 t h => k (y1, y2) t h) x.1 x.2 t h) n (x1, x2) t h
theorem kP_it3 {b : (Int → Int → Int → jMem → jO) → Int → Int → Int → jMem → jO} (hb : ∀ rec, (∀ y1 y2 y3 t, (∀ x : Int, x < 53 → t x = s x) → kP s (rec y1 y2 y3 t)) → ∀ x1 x2 x3 t, (∀ x : Int, x < 53 → t x = s x) → kP s (b rec x1 x2 x3 t)) (n : Nat) (x1 x2 x3 : Int) (h : ∀ x : Int, x < 53 → t x = s x) : kP s (jIt (fun _ _ _ _ => none) b n x1 x2 x3 t) :=
  kP_it (S := Int × Int × Int) (fun f x s => f x.1 x.2.1 x.2.2 s) (bot := (fun _ _ _ _ => none)) (fun _ _ => rfl) (fun rec k x t h => hb rec (fun y1 y2 y3 t h => k (y1, y2, y3) t h) x.1 x.2.1 x.2.2 t h) n (x1, x2, x3) t h
theorem kP_it4 {b : (Int → Int → Int → Int → jMem → jO) → Int → Int → Int → Int → jMem → jO} (hb : ∀ rec, (∀ y1 y2 y3 y4 t, (∀ x : Int, x < 53 → t x = s x) → kP s (rec y1 y2 y3 y4 t)) → ∀ x1 x2 x3 x4 t, (∀ x : Int, x < 53 → t x = s x) → kP s (b rec x1 x2 x3 x4 t)) (n : Nat) (x1 x2 x3 x4 : Int) (h : ∀ x : Int, x < 53 → t x = s x) : kP s (jIt (fun _ _ _ _ _ => none) b n x1 x2 x3 x4 t) :=
  kP_it (S := Int × Int × Int × Int) (fun f x s => f x.1 x.2.1 x.2.2.1 x.2.2.2 s) (bot := (fun _ _ _ _ _ => none)) (fun _ _ => rfl) (fun rec k x t h => hb rec (fun y1 y2 y3 y4 t h => k (y1, y2, y3, y4) t h) x.1 x.2.1 x.2.2.1 x.2.2.2 t h) n (x1, x2, x3, x4) t h
theorem kP_it5 {b : (Int → Int → Int → Int → Int → jMem → jO) → Int → Int → Int → Int → Int → jMem → jO} (hb : ∀ rec, (∀ y1 y2 y3 y4 y5 t, (∀ x : Int, x < 53 → t x = s x) → kP s (rec y1 y2 y3 y4 y5 t)) → ∀ x1 x2 x3 x4 x5 t, (∀ x : Int, x < 53 → t x = s x) → kP s (b rec x1 x2 x3 x4 x5 t)) (n : Nat) (x1 x2 x3 x4 x5 : Int) (h : ∀ x : Int, x < 53 → t x = s x) : kP s (jIt (fun _ _ _ _ _ _ => none) b n x1 x2 x3 x4 x5 t) :=
  kP_it (S := Int × Int × Int × Int × Int) (fun f x s => f x.1 x.2.1 x.2.2.1 x.2.2.2.1 x.2.2.2.2 s) (bot := (fun _ _ _ _ _ _ => none)) (fun _ _ => rfl) (fun rec k x t h => hb rec (fun y1 y2 y3 y4 y5 t h => k (y1, y2, y3, y4, y5) t h) x.1 x.2.1 x.2.2.1 x.2.2.2.1 x.2.2.2.2 t h) n (x1, x2, x3, x4, x5) t h
theorem kP_it6 {b : (Int → Int → Int → Int → Int → Int → jMem → jO) → Int → Int → Int → Int → Int → Int → jMem → jO} (hb : ∀ rec, (∀ y1 y2 y3 y4 y5 y6 t, (∀ x : Int, x < 53 → t x = s x) → kP s (rec y1 y2 y3 y4 y5 y6 t)) → ∀ x1 x2 x3 x4 x5 x6 t, (∀ x : Int, x < 53 → t x = s x) → kP s (b rec x1 x2 x3 x4 x5 x6 t)) (n : Nat) (x1 x2 x3 x4 x5 x6 : Int) (h : ∀ x : Int, x < 53 → t x = s x) : kP s (jIt (fun _ _ _ _ _ _ _ => none) b n x1 x2 x3 x4 x5 x6 t) :=
  kP_it (S := Int × Int × Int × Int × Int × Int) (fun f x s => f x.1 x.2.1 x.2.2.1 x.2.2.2.1 x.2.2.2.2.1 x.2.2.2.2.2 s) (bot := (fun _ _ _ _ _ _ _ => none)) (fun _ _ => rfl) (fun rec k x t h => hb rec (fun y1 y2 y3 y4 y5 y6 t h => k (y1, y2, y3, y4, y5, y6) t h) x.1 x.2.1 x.2.2.1 x.2.2.2.1 x.2.2.2.2.1 x.2.2.2.2.2 t h) n (x1, x2, x3, x4, x5, x6) t h
theorem k11_in (a0 a1 a2 : Int) (s : jMem) : kP s (fX11_in a0 a1 a2 s) := by
  have h : ∀ x : Int, x < 53 → s x = s x := fun _ _ => rfl
  unfold fX11_in
  exact kP_let (kP_if (fun _ => kP_ret h) (fun _ => kP_let (kP_if (fun _ => kP_ret h) (fun _ => kP_ret h))))
theorem k11_isHand (a0 : Int) (s : jMem) : kP s (fX11_isHand a0 s) := by
  have h : ∀ x : Int, x < 53 → s x = s x := fun _ _ => rfl
  unfold fX11_isHand
  exact kP_bd (kP_call h (k11_in _ _ _ _)) (fun _ _ h => kP_ret h)
theorem k11_isSort (a0 : Int) (s : jMem) : kP s (fX11_isSort a0 s) := by
  have h : ∀ x : Int, x < 53 → s x = s x := fun _ _ => rfl
  unfold fX11_isSort
  exact kP_bd (kP_call h (k11_in _ _ _ _)) (fun _ _ h => kP_ret h)
theorem k11_begins (a0 : Int) (s : jMem) : kP s (fX11_begins a0 s) := by
  have h : ∀ x : Int, x < 53 → s x = s x := fun _ _ => rfl
  unfold fX11_begins
  exact kP_if (fun _ => kP_ret h) (fun _ => kP_gd (fun _ => kP_let (kP_if (fun _ => kP_ret h) (fun _ => kP_ret h))))
theorem k11_within (a0 a1 : Int) (s : jMem) : kP s (fX11_within a0 a1 s) := by
  have h : ∀ x : Int, x < 53 → s x = s x := fun _ _ => rfl
  unfold fX11_within
  exact kP_if (fun _ => kP_ret h) (fun _ => kP_if (fun _ => kP_if (fun _ => kP_ret h) (fun _ => kP_if (fun _ => kP_ret h) (fun _ => kP_ret h))) (fun _ => kP_ret h))
theorem k11_heldMany (a : Int) (s : jMem) : kP s (fX11_heldMany a s) := by
  unfold fX11_heldMany
  refine kP_it3 (fun rec ih x1 x2 x3 t h => ?_) 1000 _ _ _ (fun _ _ => rfl)
  unfold bX11_heldMany_4
  exact kP_if (fun _ => kP_ret h) (fun _ => kP_let (kP_let (kP_gd (fun _ => kP_let (kP_let (kP_let (ih _ _ _ _ h)))))))
theorem k11_wallMany (s : jMem) : kP s (fX11_wallMany s) := by
  unfold fX11_wallMany
  refine kP_it2 (fun rec ih x1 x2 t h => ?_) 1000 _ _ (fun _ _ => rfl)
  unfold bX11_wallMany_4
  exact kP_if (fun _ => kP_ret h) (fun _ => kP_gd (fun _ => kP_let (kP_let (kP_let (ih _ _ _ h)))))
theorem k11_sizeOf (a0 : Int) (s : jMem) : kP s (fX11_sizeOf a0 s) := by
  have h : ∀ x : Int, x < 53 → s x = s x := fun _ _ => rfl
  unfold fX11_sizeOf
  exact kP_bd (kP_call h (k11_heldMany _ _)) (fun _ _ h => kP_gd (fun _ => kP_let (kP_let (kP_let (kP_ret h)))))
theorem k11_drawn63 (a b : Int) {s t : jMem} (h : ∀ x : Int, x < 53 → t x = s x) : kP s (bX11_drawn_63 a b t) := by
  unfold bX11_drawn_63
  exact kP_gd (fun _ => kP_let (kP_let (kP_gd (fun _ => kP_st (by decide) h (fun _ h => kP_let (kP_let (kP_gd (fun _ => kP_let (kP_let (kP_gd (fun _ => kP_st (by decide) h (fun _ h => kP_ret h))))))))))))
theorem k11_drawn38 (a b c : Int) {s t : jMem} (h : ∀ x : Int, x < 53 → t x = s x) : kP s (jIt (fun _ _ _ _ => none) (bX11_drawn_38 bX11_drawn_63) 1000 a b c t) := by
  refine kP_it3 (fun rec ih x1 x2 x3 t h => ?_) 1000 _ _ _ h
  unfold bX11_drawn_38
  exact kP_gd (fun _ => kP_let (kP_if (fun _ => k11_drawn63 _ _ h) (fun _ => kP_gd (fun _ => kP_let (kP_let (kP_let (ih _ _ _ _ h)))))))
theorem k11_drawn (a : Int) (s : jMem) : kP s (fX11_drawn a s) := by
  have h : ∀ x : Int, x < 53 → s x = s x := fun _ _ => rfl
  unfold fX11_drawn
  exact kP_let (kP_let (kP_let (kP_gd (fun _ => kP_let (kP_st (by decide) h (fun _ h => kP_let (kP_gd (fun _ => kP_let (kP_bd (kP_call h (k11_wallMany _)) (fun _ _ h => kP_gd (fun _ => kP_let (kP_let (k11_drawn38 _ _ _ h)))))))))))))
theorem k11_gather (a : Int) (s : jMem) : kP s (fX11_gather a s) := by
  unfold fX11_gather
  refine kP_it3 (fun rec ih x1 x2 x3 t h => ?_) 1000 _ _ _ (fun _ _ => rfl)
  unfold bX11_gather_4
  exact kP_if (fun _ => kP_gd (fun _ => kP_st (by decide) h (fun _ h => kP_ret h))) (fun _ => kP_let (kP_let (kP_gd (fun _ => kP_let (kP_let (kP_let (kP_gd (fun _ => kP_let (kP_let (kP_gd (fun _ => kP_let (kP_let (kP_gd (fun _ => kP_st (by decide) h (fun _ h => kP_let (kP_let (kP_let (kP_gd (fun _ => kP_st (by decide) h (fun _ h => kP_let (kP_let (kP_gd (fun _ => kP_st (by decide) h (fun _ h => kP_let (ih _ _ _ _ h)))))))))))))))))))))))))
theorem k11_take (a0 a1 : Int) (s : jMem) : kP s (fX11_take a0 a1 s) := by
  have h : ∀ x : Int, x < 53 → s x = s x := fun _ _ => rfl
  unfold fX11_take
  exact kP_bd (kP_call h (k11_isHand _ _)) (fun _ _ h => kP_if (fun _ => kP_ret h) (fun _ => kP_bd (kP_call h (k11_isSort _ _)) (fun _ _ h => kP_if (fun _ => kP_ret h) (fun _ => kP_bd (kP_call h (k11_sizeOf _ _)) (fun _ _ h => kP_if (fun _ => kP_ret h) (fun _ => kP_gd (fun _ => kP_let (kP_if (fun _ => kP_ret h) (fun _ => kP_gd (fun _ => kP_let (kP_let (kP_gd (fun _ => kP_st (by decide) h (fun _ h => kP_let (kP_let (kP_gd (fun _ => kP_let (kP_let (kP_gd (fun _ => kP_st (by decide) h (fun _ h => kP_bd (kP_call h (k11_sizeOf _ _)) (fun _ _ h => kP_ret h))))))))))))))))))))))
theorem k11_discard (a0 a1 : Int) (s : jMem) : kP s (fX11_discard a0 a1 s) := by
  have h : ∀ x : Int, x < 53 → s x = s x := fun _ _ => rfl
  unfold fX11_discard
  exact kP_bd (kP_call h (k11_isHand _ _)) (fun _ _ h => kP_if (fun _ => kP_ret h) (fun _ => kP_bd (kP_call h (k11_isSort _ _)) (fun _ _ h => kP_if (fun _ => kP_ret h) (fun _ => kP_let (kP_let (kP_gd (fun _ => kP_let (kP_if (fun _ => kP_ret h) (fun _ => kP_let (kP_let (kP_gd (fun _ => kP_let (kP_let (kP_gd (fun _ => kP_st (by decide) h (fun _ h => kP_gd (fun _ => kP_let (kP_let (kP_gd (fun _ => kP_st (by decide) h (fun _ h => kP_bd (kP_call h (k11_sizeOf _ _)) (fun _ _ h => kP_ret h))))))))))))))))))))))
theorem k11_draw (a0 : Int) (s : jMem) : kP s (fX11_draw a0 s) := by
  have h : ∀ x : Int, x < 53 → s x = s x := fun _ _ => rfl
  unfold fX11_draw
  exact kP_bd (kP_call h (k11_isHand _ _)) (fun _ _ h => kP_if (fun _ => kP_ret h) (fun _ => kP_bd (kP_call h (k11_sizeOf _ _)) (fun _ _ h => kP_if (fun _ => kP_ret h) (fun _ => kP_bd (kP_call h (k11_wallMany _)) (fun _ _ h => kP_if (fun _ => kP_ret h) (fun _ => kP_bd (kP_call h (k11_drawn _ _)) (fun _ _ h => kP_ret h)))))))
theorem k11_clear (a0 : Int) (s : jMem) : kP s (fX11_clear a0 s) := by
  have h : ∀ x : Int, x < 53 → s x = s x := fun _ _ => rfl
  unfold fX11_clear
  exact kP_bd (kP_call h (k11_isHand _ _)) (fun _ _ h => kP_if (fun _ => kP_ret h) (fun _ => kP_bd (kP_call h (k11_gather _ _)) (fun _ _ h => kP_ret h)))
theorem k11_open176 (a b c : Int) {s t : jMem} (h : ∀ x : Int, x < 53 → t x = s x) : kP s (bX11_open_176 a b c t) := by
  unfold bX11_open_176
  exact kP_let (kP_gd (fun _ => kP_let (kP_let (kP_let (kP_let (kP_gd (fun _ => kP_st (by decide) h (fun _ h => kP_gd (fun _ => kP_let (kP_let (kP_gd (fun _ => kP_st (by decide) h (fun _ h => kP_gd (fun _ => kP_let (kP_ret h)))))))))))))))
theorem k11_open117 (a b c d e : Int) {s t : jMem} (h : ∀ x : Int, x < 53 → t x = s x) : kP s (jIt (fun _ _ _ _ _ _ => none) (bX11_open_117 bX11_open_176) 1000 a b c d e t) := by
  refine kP_it5 (fun rec ih x1 x2 x3 x4 x5 t h => ?_) 1000 _ _ _ _ _ h
  unfold bX11_open_117
  exact kP_if (fun _ => k11_open176 _ _ _ h) (fun _ => kP_let (kP_let (kP_let (kP_gd (fun _ => kP_let (kP_bd (kP_call h (k11_within _ _ _)) (fun _ _ h => kP_let (kP_gd (fun _ => kP_st (by decide) h (fun _ h => kP_let (kP_let (kP_let (kP_gd (fun _ => kP_let (kP_bd (kP_call h (k11_within _ _ _)) (fun _ _ h => kP_let (kP_gd (fun _ => kP_st (by decide) h (fun _ h => kP_let (ih _ _ _ _ _ _ h))))))))))))))))))))
theorem k11_open106 (a b c d e : Int) {s t : jMem} (h : ∀ x : Int, x < 53 → t x = s x) : kP s (bX11_open_106 a b c d e t) := by
  unfold bX11_open_106
  exact kP_if (fun _ => kP_ret h) (fun _ => k11_open117 _ _ _ _ _ h)
theorem k11_open50 (a b c d : Int) {s t : jMem} (h : ∀ x : Int, x < 53 → t x = s x) : kP s (bX11_open_50 a b c d t) := by
  unfold bX11_open_50
  refine kP_it6 (fun rec ih x1 x2 x3 x4 x5 x6 t h => ?_) 1000 _ _ _ _ _ _ h
  unfold bX11_open_58
  exact kP_if (fun _ => k11_open106 _ _ _ _ _ h) (fun _ => kP_if (fun _ => kP_let (ih _ _ _ _ _ _ _ h)) (fun _ => kP_let (kP_let (kP_let (kP_gd (fun _ => kP_let (kP_bd (kP_call h (k11_within _ _ _)) (fun _ _ h => kP_if (fun _ => kP_let (ih _ _ _ _ _ _ _ h)) (fun _ => kP_let (ih _ _ _ _ _ _ _ h))))))))))
theorem k11_open40 (a b c : Int) {s t : jMem} (h : ∀ x : Int, x < 53 → t x = s x) : kP s (bX11_open_40 a b c t) := by
  unfold bX11_open_40
  exact kP_if (fun _ => k11_open50 _ _ _ _ h) (fun _ => k11_open50 _ _ _ _ h)
theorem k11_open (a b c : Int) (s : jMem) : kP s (fX11_open a b c s) := by
  have h : ∀ x : Int, x < 53 → s x = s x := fun _ _ => rfl
  unfold fX11_open
  exact kP_bd (kP_call h (k11_isHand _ _)) (fun _ _ h => kP_if (fun _ => kP_ret h) (fun _ => kP_bd (kP_call h (k11_in _ _ _ _)) (fun _ _ h => kP_if (fun _ => kP_ret h) (fun _ => kP_bd (kP_call h (k11_isSort _ _)) (fun _ _ h => kP_if (fun _ => kP_ret h) (fun _ => kP_if (fun _ => kP_bd (kP_call h (k11_begins _ _)) (fun _ _ h => kP_if (fun _ => kP_ret h) (fun _ => k11_open40 _ _ _ h))) (fun _ => k11_open40 _ _ _ h)))))))
theorem k11_deal73 (a b : Int) {s t : jMem} (h : ∀ x : Int, x < 53 → t x = s x) : kP s (jIt (fun _ _ _ => none) (bX11_deal_73) 1000 a b t) := by
  refine kP_it2 (fun rec ih0 z1 z2 t h => ?_) 1000 _ _ h
  have k11_102 : ∀ (y1 y2 : Int) {t : jMem}, (∀ x : Int, x < 53 → t x = s x) → kP s (rec y1 y2 t) := fun y1 y2 t h => ih0 y1 y2 t h
  unfold bX11_deal_73
  refine kP_if (fun _ => kP_ret h) (fun _ => ?_)
  refine kP_it3 (fun rec ih x1 x2 x3 t h => ?_) 1000 _ _ _ h
  unfold bX11_deal_81
  exact kP_if (fun _ => kP_let (k11_102 _ _ h)) (fun _ => kP_bd (kP_call h (k11_drawn _ _)) (fun _ _ h => kP_let (kP_let (ih _ _ _ _ h))))
theorem k11_deal65 (a b : Int) {s t : jMem} (h : ∀ x : Int, x < 53 → t x = s x) : kP s (bX11_deal_65 a b t) := by
  unfold bX11_deal_65
  exact kP_st (by decide) h (fun _ h => k11_deal73 _ _ h)
theorem k11_deal29 (a b : Int) {s t : jMem} (h : ∀ x : Int, x < 53 → t x = s x) : kP s (bX11_deal_29 a b t) := by
  unfold bX11_deal_29
  refine kP_it3 (fun rec ih x1 x2 x3 t h => ?_) 1000 _ _ _ h
  unfold bX11_deal_31
  exact kP_if (fun _ => k11_deal65 _ _ h) (fun _ => kP_gd (fun _ => kP_let (kP_gd (fun _ => kP_let (kP_let (kP_gd (fun _ => kP_st (by decide) h (fun _ h => kP_gd (fun _ => kP_st (by decide) h (fun _ h => kP_let (ih _ _ _ _ h)))))))))))
theorem k11_deal (a : Int) (s : jMem) : kP s (fX11_deal a s) := by
  unfold fX11_deal
  refine kP_if (fun _ => ?_) (fun _ => kP_ret (fun _ _ => rfl))
  refine kP_it3 (fun rec ih x1 x2 x3 t h => ?_) 1000 _ _ _ (fun _ _ => rfl)
  unfold bX11_deal_10
  exact kP_if (fun _ => k11_deal29 _ _ h) (fun _ => kP_bd (kP_call h (k11_gather _ _)) (fun _ _ h => kP_let (kP_let (ih _ _ _ _ h))))
end
