/-! ===== open ===== -/
section
theorem gIt7 {bot : Int → Int → Int → Int → Int → Int → jMem → jO} {b : (Int → Int → Int → Int → Int → Int → jMem → jO) → Int → Int → Int → Int → Int → Int → jMem → jO} {P : Int → jMem → Prop} (I : Int → Int → Int → Int → Int → Int → jMem → Prop) (m : Int → Int → Int → Int → Int → Int → Nat) (hb : ∀ rec a1 a2 a3 a4 a5 a6 s, I a1 a2 a3 a4 a5 a6 s → (∀ b1 b2 b3 b4 b5 b6 t, I b1 b2 b3 b4 b5 b6 t → m b1 b2 b3 b4 b5 b6 < m a1 a2 a3 a4 a5 a6 → jHo P (rec b1 b2 b3 b4 b5 b6 t)) → jHo P (b rec a1 a2 a3 a4 a5 a6 s)) (n : Nat) (a1 a2 a3 a4 a5 a6 : Int) (s : jMem) (h : I a1 a2 a3 a4 a5 a6 s) (hm : m a1 a2 a3 a4 a5 a6 < n) : jHo P (jIt bot b n a1 a2 a3 a4 a5 a6 s) :=
  gHo_it (S := Int × Int × Int × Int × Int × Int × jMem) (fun f x => f x.1 x.2.1 x.2.2.1 x.2.2.2.1 x.2.2.2.2.1 x.2.2.2.2.2.1 x.2.2.2.2.2.2) (fun x => I x.1 x.2.1 x.2.2.1 x.2.2.2.1 x.2.2.2.2.1 x.2.2.2.2.2.1 x.2.2.2.2.2.2) (fun x => m x.1 x.2.1 x.2.2.1 x.2.2.2.1 x.2.2.2.2.1 x.2.2.2.2.2.1) (fun rec x hx k => hb rec x.1 x.2.1 x.2.2.1 x.2.2.2.1 x.2.2.2.2.1 x.2.2.2.2.2.1 x.2.2.2.2.2.2 hx (fun b1 b2 b3 b4 b5 b6 t h1 h2 => k (b1, b2, b3, b4, b5, b6, t) h1 h2)) n (a1, a2, a3, a4, a5, a6, s) h hm
theorem gIt8 {bot : Int → Int → Int → Int → Int → Int → Int → jMem → jO} {b : (Int → Int → Int → Int → Int → Int → Int → jMem → jO) → Int → Int → Int → Int → Int → Int → Int → jMem → jO} {P : Int → jMem → Prop} (I : Int → Int → Int → Int → Int → Int → Int → jMem → Prop) (m : Int → Int → Int → Int → Int → Int → Int → Nat) (hb : ∀ rec a1 a2 a3 a4 a5 a6 a7 s, I a1 a2 a3 a4 a5 a6 a7 s → (∀ b1 b2 b3 b4 b5 b6 b7 t, I b1 b2 b3 b4 b5 b6 b7 t → m b1 b2 b3 b4 b5 b6 b7 < m a1 a2 a3 a4 a5 a6 a7 → jHo P (rec b1 b2 b3 b4 b5 b6 b7 t)) → jHo P (b rec a1 a2 a3 a4 a5 a6 a7 s)) (n : Nat) (a1 a2 a3 a4 a5 a6 a7 : Int) (s : jMem) (h : I a1 a2 a3 a4 a5 a6 a7 s) (hm : m a1 a2 a3 a4 a5 a6 a7 < n) : jHo P (jIt bot b n a1 a2 a3 a4 a5 a6 a7 s) :=
  gHo_it (S := Int × Int × Int × Int × Int × Int × Int × jMem) (fun f x => f x.1 x.2.1 x.2.2.1 x.2.2.2.1 x.2.2.2.2.1 x.2.2.2.2.2.1 x.2.2.2.2.2.2.1 x.2.2.2.2.2.2.2) (fun x => I x.1 x.2.1 x.2.2.1 x.2.2.2.1 x.2.2.2.2.1 x.2.2.2.2.2.1 x.2.2.2.2.2.2.1 x.2.2.2.2.2.2.2) (fun x => m x.1 x.2.1 x.2.2.1 x.2.2.2.1 x.2.2.2.2.1 x.2.2.2.2.2.1 x.2.2.2.2.2.2.1) (fun rec x hx k => hb rec x.1 x.2.1 x.2.2.1 x.2.2.2.1 x.2.2.2.2.1 x.2.2.2.2.2.1 x.2.2.2.2.2.2.1 x.2.2.2.2.2.2.2 hx (fun b1 b2 b3 b4 b5 b6 b7 t h1 h2 => k (b1, b2, b3, b4, b5, b6, b7, t) h1 h2)) n (a1, a2, a3, a4, a5, a6, a7, s) h hm
theorem gIt9 {bot : Int → Int → Int → Int → Int → Int → Int → Int → jMem → jO} {b : (Int → Int → Int → Int → Int → Int → Int → Int → jMem → jO) → Int → Int → Int → Int → Int → Int → Int → Int → jMem → jO} {P : Int → jMem → Prop} (I : Int → Int → Int → Int → Int → Int → Int → Int → jMem → Prop) (m : Int → Int → Int → Int → Int → Int → Int → Int → Nat) (hb : ∀ rec a1 a2 a3 a4 a5 a6 a7 a8 s, I a1 a2 a3 a4 a5 a6 a7 a8 s → (∀ b1 b2 b3 b4 b5 b6 b7 b8 t, I b1 b2 b3 b4 b5 b6 b7 b8 t → m b1 b2 b3 b4 b5 b6 b7 b8 < m a1 a2 a3 a4 a5 a6 a7 a8 → jHo P (rec b1 b2 b3 b4 b5 b6 b7 b8 t)) → jHo P (b rec a1 a2 a3 a4 a5 a6 a7 a8 s)) (n : Nat) (a1 a2 a3 a4 a5 a6 a7 a8 : Int) (s : jMem) (h : I a1 a2 a3 a4 a5 a6 a7 a8 s) (hm : m a1 a2 a3 a4 a5 a6 a7 a8 < n) : jHo P (jIt bot b n a1 a2 a3 a4 a5 a6 a7 a8 s) :=
  gHo_it (S := Int × Int × Int × Int × Int × Int × Int × Int × jMem) (fun f x => f x.1 x.2.1 x.2.2.1 x.2.2.2.1 x.2.2.2.2.1 x.2.2.2.2.2.1 x.2.2.2.2.2.2.1 x.2.2.2.2.2.2.2.1 x.2.2.2.2.2.2.2.2) (fun x => I x.1 x.2.1 x.2.2.1 x.2.2.2.1 x.2.2.2.2.1 x.2.2.2.2.2.1 x.2.2.2.2.2.2.1 x.2.2.2.2.2.2.2.1 x.2.2.2.2.2.2.2.2) (fun x => m x.1 x.2.1 x.2.2.1 x.2.2.2.1 x.2.2.2.2.1 x.2.2.2.2.2.1 x.2.2.2.2.2.2.1 x.2.2.2.2.2.2.2.1) (fun rec x hx k => hb rec x.1 x.2.1 x.2.2.1 x.2.2.2.1 x.2.2.2.2.1 x.2.2.2.2.2.1 x.2.2.2.2.2.2.1 x.2.2.2.2.2.2.2.1 x.2.2.2.2.2.2.2.2 hx (fun b1 b2 b3 b4 b5 b6 b7 b8 t h1 h2 => k (b1, b2, b3, b4, b5, b6, b7, b8, t) h1 h2)) n (a1, a2, a3, a4, a5, a6, a7, a8, s) h hm
theorem gIt10 {bot : Int → Int → Int → Int → Int → Int → Int → Int → Int → jMem → jO} {b : (Int → Int → Int → Int → Int → Int → Int → Int → Int → jMem → jO) → Int → Int → Int → Int → Int → Int → Int → Int → Int → jMem → jO} {P : Int → jMem → Prop} (I : Int → Int → Int → Int → Int → Int → Int → Int → Int → jMem → Prop) (m : Int → Int → Int → Int → Int → Int → Int → Int → Int → Nat) (hb : ∀ rec a1 a2 a3 a4 a5 a6 a7 a8 a9 s, I a1 a2 a3 a4 a5 a6 a7 a8 a9 s → (∀ b1 b2 b3 b4 b5 b6 b7 b8 b9 t, I b1 b2 b3 b4 b5 b6 b7 b8 b9 t → m b1 b2 b3 b4 b5 b6 b7 b8 b9 < m a1 a2 a3 a4 a5 a6 a7 a8 a9 → jHo P (rec b1 b2 b3 b4 b5 b6 b7 b8 b9 t)) → jHo P (b rec a1 a2 a3 a4 a5 a6 a7 a8 a9 s)) (n : Nat) (a1 a2 a3 a4 a5 a6 a7 a8 a9 : Int) (s : jMem) (h : I a1 a2 a3 a4 a5 a6 a7 a8 a9 s) (hm : m a1 a2 a3 a4 a5 a6 a7 a8 a9 < n) : jHo P (jIt bot b n a1 a2 a3 a4 a5 a6 a7 a8 a9 s) :=
  gHo_it (S := Int × Int × Int × Int × Int × Int × Int × Int × Int × jMem) (fun f x => f x.1 x.2.1 x.2.2.1 x.2.2.2.1 x.2.2.2.2.1 x.2.2.2.2.2.1 x.2.2.2.2.2.2.1 x.2.2.2.2.2.2.2.1 x.2.2.2.2.2.2.2.2.1 x.2.2.2.2.2.2.2.2.2) (fun x => I x.1 x.2.1 x.2.2.1 x.2.2.2.1 x.2.2.2.2.1 x.2.2.2.2.2.1 x.2.2.2.2.2.2.1 x.2.2.2.2.2.2.2.1 x.2.2.2.2.2.2.2.2.1 x.2.2.2.2.2.2.2.2.2) (fun x => m x.1 x.2.1 x.2.2.1 x.2.2.2.1 x.2.2.2.2.1 x.2.2.2.2.2.1 x.2.2.2.2.2.2.1 x.2.2.2.2.2.2.2.1 x.2.2.2.2.2.2.2.2.1) (fun rec x hx k => hb rec x.1 x.2.1 x.2.2.1 x.2.2.2.1 x.2.2.2.2.1 x.2.2.2.2.2.1 x.2.2.2.2.2.2.1 x.2.2.2.2.2.2.2.1 x.2.2.2.2.2.2.2.2.1 x.2.2.2.2.2.2.2.2.2 hx (fun b1 b2 b3 b4 b5 b6 b7 b8 b9 t h1 h2 => k (b1, b2, b3, b4, b5, b6, b7, b8, b9, t) h1 h2)) n (a1, a2, a3, a4, a5, a6, a7, a8, a9, s) h hm
theorem gIt11 {bot : Int → Int → Int → Int → Int → Int → Int → Int → Int → Int → jMem → jO} {b : (Int → Int → Int → Int → Int → Int → Int → Int → Int → Int → jMem → jO) → Int → Int → Int → Int → Int → Int → Int → Int → Int → Int → jMem → jO} {P : Int → jMem → Prop} (I : Int → Int → Int → Int → Int → Int → Int → Int → Int → Int → jMem → Prop) (m : Int → Int → Int → Int → Int → Int → Int → Int → Int → Int → Nat) (hb : ∀ rec a1 a2 a3 a4 a5 a6 a7 a8 a9 a10 s, I a1 a2 a3 a4 a5 a6 a7 a8 a9 a10 s → (∀ b1 b2 b3 b4 b5 b6 b7 b8 b9 b10 t, I b1 b2 b3 b4 b5 b6 b7 b8 b9 b10 t → m b1 b2 b3 b4 b5 b6 b7 b8 b9 b10 < m a1 a2 a3 a4 a5 a6 a7 a8 a9 a10 → jHo P (rec b1 b2 b3 b4 b5 b6 b7 b8 b9 b10 t)) → jHo P (b rec a1 a2 a3 a4 a5 a6 a7 a8 a9 a10 s)) (n : Nat) (a1 a2 a3 a4 a5 a6 a7 a8 a9 a10 : Int) (s : jMem) (h : I a1 a2 a3 a4 a5 a6 a7 a8 a9 a10 s) (hm : m a1 a2 a3 a4 a5 a6 a7 a8 a9 a10 < n) : jHo P (jIt bot b n a1 a2 a3 a4 a5 a6 a7 a8 a9 a10 s) :=
  gHo_it (S := Int × Int × Int × Int × Int × Int × Int × Int × Int × Int × jMem) (fun f x => f x.1 x.2.1 x.2.2.1 x.2.2.2.1 x.2.2.2.2.1 x.2.2.2.2.2.1 x.2.2.2.2.2.2.1 x.2.2.2.2.2.2.2.1 x.2.2.2.2.2.2.2.2.1 x.2.2.2.2.2.2.2.2.2.1 x.2.2.2.2.2.2.2.2.2.2) (fun x => I x.1 x.2.1 x.2.2.1 x.2.2.2.1 x.2.2.2.2.1 x.2.2.2.2.2.1 x.2.2.2.2.2.2.1 x.2.2.2.2.2.2.2.1 x.2.2.2.2.2.2.2.2.1 x.2.2.2.2.2.2.2.2.2.1 x.2.2.2.2.2.2.2.2.2.2) (fun x => m x.1 x.2.1 x.2.2.1 x.2.2.2.1 x.2.2.2.2.1 x.2.2.2.2.2.1 x.2.2.2.2.2.2.1 x.2.2.2.2.2.2.2.1 x.2.2.2.2.2.2.2.2.1 x.2.2.2.2.2.2.2.2.2.1) (fun rec x hx k => hb rec x.1 x.2.1 x.2.2.1 x.2.2.2.1 x.2.2.2.2.1 x.2.2.2.2.2.1 x.2.2.2.2.2.2.1 x.2.2.2.2.2.2.2.1 x.2.2.2.2.2.2.2.2.1 x.2.2.2.2.2.2.2.2.2.1 x.2.2.2.2.2.2.2.2.2.2 hx (fun b1 b2 b3 b4 b5 b6 b7 b8 b9 b10 t h1 h2 => k (b1, b2, b3, b4, b5, b6, b7, b8, b9, b10, t) h1 h2)) n (a1, a2, a3, a4, a5, a6, a7, a8, a9, a10, s) h hm
theorem gIt12 {bot : Int → Int → Int → Int → Int → Int → Int → Int → Int → Int → Int → jMem → jO} {b : (Int → Int → Int → Int → Int → Int → Int → Int → Int → Int → Int → jMem → jO) → Int → Int → Int → Int → Int → Int → Int → Int → Int → Int → Int → jMem → jO} {P : Int → jMem → Prop} (I : Int → Int → Int → Int → Int → Int → Int → Int → Int → Int → Int → jMem → Prop) (m : Int → Int → Int → Int → Int → Int → Int → Int → Int → Int → Int → Nat) (hb : ∀ rec a1 a2 a3 a4 a5 a6 a7 a8 a9 a10 a11 s, I a1 a2 a3 a4 a5 a6 a7 a8 a9 a10 a11 s → (∀ b1 b2 b3 b4 b5 b6 b7 b8 b9 b10 b11 t, I b1 b2 b3 b4 b5 b6 b7 b8 b9 b10 b11 t → m b1 b2 b3 b4 b5 b6 b7 b8 b9 b10 b11 < m a1 a2 a3 a4 a5 a6 a7 a8 a9 a10 a11 → jHo P (rec b1 b2 b3 b4 b5 b6 b7 b8 b9 b10 b11 t)) → jHo P (b rec a1 a2 a3 a4 a5 a6 a7 a8 a9 a10 a11 s)) (n : Nat) (a1 a2 a3 a4 a5 a6 a7 a8 a9 a10 a11 : Int) (s : jMem) (h : I a1 a2 a3 a4 a5 a6 a7 a8 a9 a10 a11 s) (hm : m a1 a2 a3 a4 a5 a6 a7 a8 a9 a10 a11 < n) : jHo P (jIt bot b n a1 a2 a3 a4 a5 a6 a7 a8 a9 a10 a11 s) :=
  gHo_it (S := Int × Int × Int × Int × Int × Int × Int × Int × Int × Int × Int × jMem) (fun f x => f x.1 x.2.1 x.2.2.1 x.2.2.2.1 x.2.2.2.2.1 x.2.2.2.2.2.1 x.2.2.2.2.2.2.1 x.2.2.2.2.2.2.2.1 x.2.2.2.2.2.2.2.2.1 x.2.2.2.2.2.2.2.2.2.1 x.2.2.2.2.2.2.2.2.2.2.1 x.2.2.2.2.2.2.2.2.2.2.2) (fun x => I x.1 x.2.1 x.2.2.1 x.2.2.2.1 x.2.2.2.2.1 x.2.2.2.2.2.1 x.2.2.2.2.2.2.1 x.2.2.2.2.2.2.2.1 x.2.2.2.2.2.2.2.2.1 x.2.2.2.2.2.2.2.2.2.1 x.2.2.2.2.2.2.2.2.2.2.1 x.2.2.2.2.2.2.2.2.2.2.2) (fun x => m x.1 x.2.1 x.2.2.1 x.2.2.2.1 x.2.2.2.2.1 x.2.2.2.2.2.1 x.2.2.2.2.2.2.1 x.2.2.2.2.2.2.2.1 x.2.2.2.2.2.2.2.2.1 x.2.2.2.2.2.2.2.2.2.1 x.2.2.2.2.2.2.2.2.2.2.1) (fun rec x hx k => hb rec x.1 x.2.1 x.2.2.1 x.2.2.2.1 x.2.2.2.2.1 x.2.2.2.2.2.1 x.2.2.2.2.2.2.1 x.2.2.2.2.2.2.2.1 x.2.2.2.2.2.2.2.2.1 x.2.2.2.2.2.2.2.2.2.1 x.2.2.2.2.2.2.2.2.2.2.1 x.2.2.2.2.2.2.2.2.2.2.2 hx (fun b1 b2 b3 b4 b5 b6 b7 b8 b9 b10 b11 t h1 h2 => k (b1, b2, b3, b4, b5, b6, b7, b8, b9, b10, b11, t) h1 h2)) n (a1, a2, a3, a4, a5, a6, a7, a8, a9, a10, a11, s) h hm
theorem gIt13 {bot : Int → Int → Int → Int → Int → Int → Int → Int → Int → Int → Int → Int → jMem → jO} {b : (Int → Int → Int → Int → Int → Int → Int → Int → Int → Int → Int → Int → jMem → jO) → Int → Int → Int → Int → Int → Int → Int → Int → Int → Int → Int → Int → jMem → jO} {P : Int → jMem → Prop} (I : Int → Int → Int → Int → Int → Int → Int → Int → Int → Int → Int → Int → jMem → Prop) (m : Int → Int → Int → Int → Int → Int → Int → Int → Int → Int → Int → Int → Nat) (hb : ∀ rec a1 a2 a3 a4 a5 a6 a7 a8 a9 a10 a11 a12 s, I a1 a2 a3 a4 a5 a6 a7 a8 a9 a10 a11 a12 s → (∀ b1 b2 b3 b4 b5 b6 b7 b8 b9 b10 b11 b12 t, I b1 b2 b3 b4 b5 b6 b7 b8 b9 b10 b11 b12 t → m b1 b2 b3 b4 b5 b6 b7 b8 b9 b10 b11 b12 < m a1 a2 a3 a4 a5 a6 a7 a8 a9 a10 a11 a12 → jHo P (rec b1 b2 b3 b4 b5 b6 b7 b8 b9 b10 b11 b12 t)) → jHo P (b rec a1 a2 a3 a4 a5 a6 a7 a8 a9 a10 a11 a12 s)) (n : Nat) (a1 a2 a3 a4 a5 a6 a7 a8 a9 a10 a11 a12 : Int) (s : jMem) (h : I a1 a2 a3 a4 a5 a6 a7 a8 a9 a10 a11 a12 s) (hm : m a1 a2 a3 a4 a5 a6 a7 a8 a9 a10 a11 a12 < n) : jHo P (jIt bot b n a1 a2 a3 a4 a5 a6 a7 a8 a9 a10 a11 a12 s) :=
  gHo_it (S := Int × Int × Int × Int × Int × Int × Int × Int × Int × Int × Int × Int × jMem) (fun f x => f x.1 x.2.1 x.2.2.1 x.2.2.2.1 x.2.2.2.2.1 x.2.2.2.2.2.1 x.2.2.2.2.2.2.1 x.2.2.2.2.2.2.2.1 x.2.2.2.2.2.2.2.2.1 x.2.2.2.2.2.2.2.2.2.1 x.2.2.2.2.2.2.2.2.2.2.1 x.2.2.2.2.2.2.2.2.2.2.2.1 x.2.2.2.2.2.2.2.2.2.2.2.2) (fun x => I x.1 x.2.1 x.2.2.1 x.2.2.2.1 x.2.2.2.2.1 x.2.2.2.2.2.1 x.2.2.2.2.2.2.1 x.2.2.2.2.2.2.2.1 x.2.2.2.2.2.2.2.2.1 x.2.2.2.2.2.2.2.2.2.1 x.2.2.2.2.2.2.2.2.2.2.1 x.2.2.2.2.2.2.2.2.2.2.2.1 x.2.2.2.2.2.2.2.2.2.2.2.2) (fun x => m x.1 x.2.1 x.2.2.1 x.2.2.2.1 x.2.2.2.2.1 x.2.2.2.2.2.1 x.2.2.2.2.2.2.1 x.2.2.2.2.2.2.2.1 x.2.2.2.2.2.2.2.2.1 x.2.2.2.2.2.2.2.2.2.1 x.2.2.2.2.2.2.2.2.2.2.1 x.2.2.2.2.2.2.2.2.2.2.2.1) (fun rec x hx k => hb rec x.1 x.2.1 x.2.2.1 x.2.2.2.1 x.2.2.2.2.1 x.2.2.2.2.2.1 x.2.2.2.2.2.2.1 x.2.2.2.2.2.2.2.1 x.2.2.2.2.2.2.2.2.1 x.2.2.2.2.2.2.2.2.2.1 x.2.2.2.2.2.2.2.2.2.2.1 x.2.2.2.2.2.2.2.2.2.2.2.1 x.2.2.2.2.2.2.2.2.2.2.2.2 hx (fun b1 b2 b3 b4 b5 b6 b7 b8 b9 b10 b11 b12 t h1 h2 => k (b1, b2, b3, b4, b5, b6, b7, b8, b9, b10, b11, b12, t) h1 h2)) n (a1, a2, a3, a4, a5, a6, a7, a8, a9, a10, a11, a12, s) h hm
def yUse (k q p : Int) : Int := if k = 1 then (if p = q ∨ p = q + 1 ∨ p = q + 2 then 1 else 0) else if p = q then k + 1 else 0
theorem yUse_c {k q p : Int} (q0 : 0 ≤ q) (q4 : q < 100) : jUse (100 * k + q) p = yUse k q p := by
  unfold jUse yUse
  rw [show (100 * k + q) / 100 = k by omega, show (100 * k + q) % 100 = q by omega]
theorem jrem_9 {q : Int} (q0 : 0 ≤ q) (q4 : q < 1000) : jrem q 9 = q % 9 := jrem_nn ⟨q0, by omega⟩ ⟨by decide, by decide⟩
theorem jdiv_9 {q : Int} (q0 : 0 ≤ q) (q4 : q < 1000) : jdiv q 9 = q / 9 := jdiv_nn ⟨q0, by omega⟩ ⟨by decide, by decide⟩
theorem zX8_startsRun {q : Int} {s : jMem} (q0 : 0 ≤ q) (q4 : q < 1000) : fX8_startsRun q s = some (jb (q < 27 ∧ q % 9 ≤ 6), s) := by
  unfold fX8_startsRun
  rw [jGd_e (by decide), jLet_e, jrem_9 q0 q4]
  by_cases a : 27 ≤ q
  · rw [if_pos a, jb_0 (by omega)]; rfl
  · rw [if_neg a]
    by_cases b : 6 < q % 9
    · rw [if_pos b, jb_0 (by omega)]; rfl
    · rw [if_neg b, jb_1 (by omega)]; rfl
theorem zX11_begins {q : Int} {s : jMem} (q0 : 0 ≤ q) (q4 : q < 1000) : fX11_begins q s = some (jb (q < 27 ∧ q % 9 ≤ 6), s) := by
  unfold fX11_begins
  rw [jGd_e (by decide), jLet_e, jrem_9 q0 q4]
  by_cases a : 27 ≤ q
  · rw [if_pos a, jb_0 (by omega)]; rfl
  · rw [if_neg a]
    by_cases b : 7 ≤ q % 9
    · rw [if_pos b, jb_0 (by omega)]; rfl
    · rw [if_neg b, jb_1 (by omega)]; rfl
theorem jSum_one (a d : Int) (n : Nat) : jSum (fun p => if p = a then d else 0) n = if 0 ≤ a ∧ a < n then d else 0 := by
  induction n with
  | zero => rw [if_neg (by omega)]; rfl
  | succ n ih =>
    simp only [jSum]
    rw [ih]
    by_cases e : (n : Int) = a
    · rw [if_neg (by omega), if_pos e, if_pos (by omega)]; omega
    · rw [if_neg e]
      by_cases e2 : 0 ≤ a ∧ a < n
      · rw [if_pos e2, if_pos (by omega)]; omega
      · rw [if_neg e2, if_neg (by omega)]; omega
theorem jSum_sub {f g : Int → Int} (n : Nat) : jSum (fun i => f i - g i) n = jSum f n - jSum g n := by
  induction n with
  | zero => rfl
  | succ n ih => simp only [jSum, ih]; omega
/-- how many tiles a group of a kind has -/
def yTl (k : Int) : Int := if k = 1 then 3 else k + 1
theorem yUse_sum {k q : Int} (q0 : 0 ≤ q) (q4 : q < 34) (hk : k = 1 → q + 2 < 34) : jSum (yUse k q) 34 = yTl k := by
  unfold yTl
  by_cases e : k = 1
  · rw [if_pos e]
    have h1 := jSum_one q 1 34
    have h2 := jSum_one (q + 1) 1 34
    have h3 := jSum_one (q + 2) 1 34
    rw [if_pos (by omega)] at h1 h2 h3
    have := jSum_cg (f := yUse k q) (g := fun p => (if p = q then 1 else 0) + ((if p = q + 1 then 1 else 0) + (if p = q + 2 then 1 else 0))) (n := 34) (fun i hi => by
      unfold yUse
      rw [if_pos e]
      by_cases a : (i : Int) = q
      · rw [if_pos (Or.inl a), if_pos a, if_neg (by omega), if_neg (by omega)]; rfl
      · by_cases b : (i : Int) = q + 1
        · rw [if_pos (Or.inr (Or.inl b)), if_neg a, if_pos b, if_neg (by omega)]; rfl
        · by_cases c : (i : Int) = q + 2
          · rw [if_pos (Or.inr (Or.inr c)), if_neg a, if_neg b, if_pos c]; rfl
          · rw [if_neg (by omega), if_neg a, if_neg b, if_neg c]; rfl)
    rw [this, jSum_add (f := fun p => if p = q then 1 else 0) (g := fun p => (if p = q + 1 then 1 else 0) + (if p = q + 2 then 1 else 0)) 34, jSum_add (f := fun p => if p = q + 1 then 1 else 0) (g := fun p => if p = q + 2 then 1 else 0) 34, h1, h2, h3]
    rfl
  · rw [if_neg e]
    have h1 := jSum_one q (k + 1) 34
    rw [if_pos (by omega)] at h1
    rw [← h1]
    exact jSum_cg (fun i hi => by unfold yUse; rw [if_neg e])
theorem jSum_le {f g : Int → Int} {n : Nat} (h : ∀ i : Nat, i < n → f i ≤ g i) : jSum f n ≤ jSum g n := by
  induction n with
  | zero => exact Int.le_refl 0
  | succ n ih =>
    have h1 := ih (fun i hi => h i (by omega))
    have h2 := h n (by omega)
    simp only [jSum]
    omega
theorem zX1_lay {s : jMem} {h k q : Int} (h0 : 0 ≤ h) (h4 : h < 4) (q0 : 0 ≤ q) (q4 : q < 34) (hk : 1 ≤ k ∧ k ≤ 3) (hr : k = 1 → q + 2 < 34) (hb : ∀ p : Int, 0 ≤ p → p < 34 → yUse k q p ≤ s (38 + 4 * h) p ∧ 0 ≤ s (38 + 4 * h) p ∧ s (38 + 4 * h) p ≤ 4 ∧ 0 ≤ s (39 + 4 * h) p ∧ s (39 + 4 * h) p ≤ 4) (h3 : 4 ≤ s (37 + 4 * h) 3 + (if k = 3 then 0 else 1) ∧ s (37 + 4 * h) 3 ≤ 100) (hg : 0 ≤ s (37 + 4 * h) 4 ∧ s (37 + 4 * h) 4 < 4) : jHo (fun _ t => (∀ x : Int, ¬ (37 + 4 * h ≤ x ∧ x ≤ 40 + 4 * h) → t x = s x) ∧ (∀ p : Int, 0 ≤ p → p < 34 → t (38 + 4 * h) p = s (38 + 4 * h) p - yUse k q p ∧ t (39 + 4 * h) p = s (39 + 4 * h) p + yUse k q p) ∧ t (37 + 4 * h) 3 = s (37 + 4 * h) 3 - yTl k ∧ t (37 + 4 * h) 4 = s (37 + 4 * h) 4 + 1 ∧ ∀ j : Int, t (40 + 4 * h) j = if j = s (37 + 4 * h) 4 then 100 * k + q else s (40 + 4 * h) j) (fX1_lay (37 + 4 * h) k q s) := by
  obtain ⟨t0, t1, t2, t3, t4, t5, t6, t7, t8, t9⟩ := jh_t h0 h4
  have main : jHo (fun _ t => (∀ x : Int, ¬ (37 + 4 * h ≤ x ∧ x ≤ 40 + 4 * h) → t x = s x) ∧ (∀ p : Int, 0 ≤ p → p < 34 → t (38 + 4 * h) p = s (38 + 4 * h) p - yUse k q p ∧ t (39 + 4 * h) p = s (39 + 4 * h) p + yUse k q p) ∧ t (37 + 4 * h) 3 = s (37 + 4 * h) 3 - yTl k ∧ t (37 + 4 * h) 4 = s (37 + 4 * h) 4 + 1 ∧ ∀ j : Int, t (40 + 4 * h) j = if j = s (37 + 4 * h) 4 then 100 * k + q else s (40 + 4 * h) j) (bX1_lay_13 (37 + 4 * h) k q (yTl k) s) := by
    have tl : yTl k = if k = 1 then 3 else k + 1 := rfl
    have tb : 3 ≤ yTl k ∧ yTl k ≤ 4 ∧ yTl k ≤ s (37 + 4 * h) 3 := by
      rw [tl]
      split at h3 <;> split <;> omega
    unfold bX1_lay_13
    refine gIt6 (fun a1 a2 a3 a4 j t => a1 = 37 + 4 * h ∧ a2 = k ∧ a3 = q ∧ a4 = yTl k ∧ 0 ≤ j ∧ j ≤ yTl k ∧ (∀ x : Int, ¬ (37 + 4 * h ≤ x ∧ x < 40 + 4 * h) → t x = s x) ∧ (∀ p : Int, 0 ≤ p → p < 34 → t (38 + 4 * h) p = s (38 + 4 * h) p - (if k = 1 then (if q ≤ p ∧ p < q + j then 1 else 0) else if p = q then j else 0) ∧ t (39 + 4 * h) p = s (39 + 4 * h) p + (if k = 1 then (if q ≤ p ∧ p < q + j then 1 else 0) else if p = q then j else 0)) ∧ t (37 + 4 * h) 3 = s (37 + 4 * h) 3 - j ∧ t (37 + 4 * h) 4 = s (37 + 4 * h) 4) (fun _ _ _ _ j => (4 - j).toNat) ?_ 1000 _ k q (yTl k) 0 s ⟨rfl, rfl, rfl, rfl, by omega, by omega, fun _ _ => rfl, fun p p0 p4 => ?_, by omega, rfl⟩ (by decide)
    · rintro rec a1 a2 a3 a4 j t ⟨rfl, rfl, rfl, rfl, j0, j4, fr, hv, hz, hgr⟩ ih
      unfold bX1_lay_17
      refine gHo_if (fun hc => ?_) (fun hc => ?_)
      · have e : j = yTl a2 := by omega
        unfold bX1_lay_61
        refine gHo_gd t1 (gHo_let ?_)
        rw [t4]
        refine gHo_let ?_
        rw [hgr]
        unfold fX0_code
        simp only [jLet_e, jRet]
        rw [j32_id (x := 100 * a2) (by omega) (by omega), j32_id (x := 100 * a2 + a3) (by omega) (by omega), jBd_s, jGd_e ⟨by omega, by omega⟩]
        rw [jU_row (r' := 37 + 4 * h) (by omega), hgr, j32_id (x := s (37 + 4 * h) 4 + 1) (by omega) (by omega)]
        refine gHo_some ⟨fun x hx => ?_, fun p p0 p4 => ?_, ?_, ?_, fun i => ?_⟩
        · rw [jU_row (by omega), jU_row (by omega)]; exact fr x (by omega)
        · rw [jU_row (by omega), jU_row (by omega), jU_row (by omega), jU_row (by omega), (hv p p0 p4).1, (hv p p0 p4).2, e]
          have eu : (if a2 = 1 then (if a3 ≤ p ∧ p < a3 + yTl a2 then 1 else 0) else if p = a3 then yTl a2 else 0) = yUse a2 a3 p := by
            unfold yUse yTl
            by_cases e1 : a2 = 1
            · rw [if_pos e1, if_pos e1, if_pos e1]
              by_cases e2 : a3 ≤ p ∧ p < a3 + 3
              · rw [if_pos e2, if_pos (by omega)]
              · rw [if_neg e2, if_neg (by omega)]
            · rw [if_neg e1, if_neg e1, if_neg e1]
          rw [eu]; exact ⟨rfl, rfl⟩
        · rw [jU_at, if_neg (by decide), jU_row (by omega), hz, e]
        · rw [jU_at, if_pos rfl]
        · rw [jU_row (by omega), jU_at, fr (40 + 4 * h) (by omega)]
      · -- one tile more goes over
        have go : ∀ o : Int, 0 ≤ o → o < 34 → o = (if a2 = 1 then a3 + j else a3) → jHo (fun _ t => (∀ x : Int, ¬ (37 + 4 * h ≤ x ∧ x ≤ 40 + 4 * h) → t x = s x) ∧ (∀ p : Int, 0 ≤ p → p < 34 → t (38 + 4 * h) p = s (38 + 4 * h) p - yUse a2 a3 p ∧ t (39 + 4 * h) p = s (39 + 4 * h) p + yUse a2 a3 p) ∧ t (37 + 4 * h) 3 = s (37 + 4 * h) 3 - yTl a2 ∧ t (37 + 4 * h) 4 = s (37 + 4 * h) 4 + 1 ∧ ∀ j : Int, t (40 + 4 * h) j = if j = s (37 + 4 * h) 4 then 100 * a2 + a3 else s (40 + 4 * h) j) (bX1_lay_36 rec (37 + 4 * h) a2 a3 (yTl a2) j o t) := by
          intro o o0 o4 ho
          have hvo := hv o o0 o4
          have b := hb o o0 o4
          have uo : yUse a2 a3 o ≤ s (38 + 4 * h) o := b.1
          have cur : 1 ≤ t (38 + 4 * h) o ∧ t (38 + 4 * h) o ≤ 4 ∧ 0 ≤ t (39 + 4 * h) o ∧ t (39 + 4 * h) o ≤ 8 := by
            unfold yUse at uo
            unfold yTl at hc j4
            by_cases e1 : a2 = 1
            · rw [if_pos e1] at ho uo hc j4
              rw [if_pos e1, if_neg (by omega)] at hvo
              rw [if_pos (by omega)] at uo
              omega
            · rw [if_neg e1] at ho uo hc j4
              rw [if_neg e1, if_pos ho] at hvo
              rw [if_pos ho] at uo
              omega
          unfold bX1_lay_36
          rw [jGd_e t1, sX1_lose h0 h4 o0 o4 ⟨by omega, by omega⟩ ⟨by omega, by omega⟩, jBd_s]
          refine gHo_let ?_
          rw [t3]
          refine gHo_gd ⟨o0, by omega⟩ (gHo_let ?_)
          rw [jU_row (r' := 39 + 4 * h) (by omega), jU_row (r' := 39 + 4 * h) (by omega)]
          refine gHo_l32 (by omega) (by omega) (gHo_gd ⟨o0, by omega⟩ (gHo_nm fun t' ht' => gHo_l32 (by omega) (by omega) (ih _ _ _ _ _ _ ⟨rfl, rfl, rfl, rfl, by omega, by omega, fun x hx => ?_, fun p p0 p4 => ?_, ?_, ?_⟩ (by omega))))
          · rw [ht', jU_row (by omega), jU_row (by omega), jU_row (by omega)]; exact fr x hx
          · rw [ht', jU_row (r' := 38 + 4 * h) (by omega), jU_row (r' := 38 + 4 * h) (by omega), jU_at, jU_at]
            rw [jU_row (r' := 39 + 4 * h) (by omega), jU_row (r' := 39 + 4 * h) (by omega)]
            have hvp := hv p p0 p4
            by_cases e1 : a2 = 1
            · rw [if_pos e1] at ho hvp ⊢
              by_cases e2 : p = o
              · subst e2
                rw [if_neg (by omega)] at hvp
                rw [if_pos rfl, if_pos rfl, if_pos (by omega)]; omega
              · rw [if_neg e2, if_neg e2, hvp.1, hvp.2]
                by_cases e3 : a3 ≤ p ∧ p < a3 + j
                · rw [if_pos e3, if_pos (by omega)]; exact ⟨rfl, rfl⟩
                · rw [if_neg e3, if_neg (by omega)]; exact ⟨rfl, rfl⟩
            · rw [if_neg e1] at ho hvp ⊢
              subst ho
              by_cases e2 : p = o
              · subst e2
                rw [if_pos rfl] at hvp
                rw [if_pos rfl, if_pos rfl, if_pos rfl]; omega
              · rw [if_neg e2] at hvp
                rw [if_neg e2, if_neg e2, if_neg e2]; exact hvp
          · rw [ht', jU_row (by omega), jU_at, if_pos rfl, hz]; omega
          · rw [ht', jU_row (by omega), jU_at, if_neg (by decide), jU_row (by omega)]; exact hgr
        refine gHo_if (fun e1 => ?_) (fun e1 => ?_)
        · have tl3 : yTl a2 = 3 := by unfold yTl; rw [if_pos e1]
          have := hr e1
          refine gHo_l32 (by omega) (by omega) (go _ (by omega) (by omega) ?_)
          rw [if_pos e1]
        · refine go _ q0 q4 ?_
          rw [if_neg e1]
    · by_cases e1 : k = 1
      · rw [if_pos e1, if_neg (by omega)]; omega
      · rw [if_neg e1]; split <;> omega
  unfold fX1_lay
  refine gHo_if (fun e1 => ?_) (fun e1 => ?_)
  · have : yTl k = 3 := by unfold yTl; rw [if_pos e1]
    rw [this] at main; rw [this]; exact main
  · have : yTl k = k + 1 := by unfold yTl; rw [if_neg e1]
    unfold fX0_tilesAlike
    rw [jLet_e, j32_id (by omega) (by omega)]
    rw [this] at main
    rw [this]
    exact main
/-- whether a group's tiles are there -/
abbrev yHas (f : Int → Int) (k q : Int) : Prop := if k = 1 then 1 ≤ f q ∧ 1 ≤ f (q + 1) ∧ 1 ≤ f (q + 2) else k + 1 ≤ f q
theorem zX1_canLay {s : jMem} {h k q : Int} (h0 : 0 ≤ h) (h4 : h < 4) (q0 : 0 ≤ q) (q4 : q < 34) (hk : 1 ≤ k ∧ k ≤ 3) (hr : k = 1 → q + 2 < 34) : fX1_canLay (37 + 4 * h) k q s = some (jb (s (37 + 4 * h) 4 < 4 ∧ yHas (s (38 + 4 * h)) k q), s) := by
  obtain ⟨t0, t1, t2, t3, t4, t5, t6, t7, t8, t9⟩ := jh_t h0 h4
  unfold fX1_canLay
  rw [jGd_e t1, jLet_e]
  by_cases a : s (37 + 4 * h) 4 < 4
  · rw [if_pos a]
    by_cases e : k = 1
    · have hr := hr e
      rw [if_pos e]
      simp only [jLet_e, t2]
      rw [jGd_e ⟨q0, by omega⟩, j32_id (x := q + 1) (by omega) (by omega), j32_id (x := q + 2) (by omega) (by omega)]
      by_cases b1 : s (38 + 4 * h) q ≤ 0
      · rw [if_pos b1, jb_0 (by unfold yHas; rw [if_pos e]; omega)]; rfl
      · rw [if_neg b1, jGd_e ⟨by omega, by omega⟩]
        by_cases b2 : s (38 + 4 * h) (q + 1) ≤ 0
        · rw [if_pos b2, jb_0 (by unfold yHas; rw [if_pos e]; omega)]; rfl
        · rw [if_neg b2, jGd_e ⟨by omega, by omega⟩]
          by_cases b3 : s (38 + 4 * h) (q + 2) ≤ 0
          · rw [if_pos b3, jb_0 (by unfold yHas; rw [if_pos e]; omega)]; rfl
          · rw [if_neg b3, jb_1 (by unfold yHas; rw [if_pos e]; omega)]; rfl
    · rw [if_neg e]
      unfold fX0_tilesAlike
      simp only [jLet_e, t2, jRet, jBd_s]
      rw [jGd_e ⟨q0, by omega⟩, j32_id (x := k + 1) (by omega) (by omega)]
      by_cases b1 : s (38 + 4 * h) q < k + 1
      · rw [if_pos b1, jb_0 (by unfold yHas; rw [if_neg e]; omega)]
      · rw [if_neg b1, jb_1 (by unfold yHas; rw [if_neg e]; omega)]
  · rw [if_neg a, jb_0 (by omega)]; rfl
theorem zX11_within {k j : Int} {s : jMem} (hk : 1 ≤ k ∧ k ≤ 3) : fX11_within k j s = some (if k = 1 then 1 else if j ≤ 0 then k + 1 else 0, s) := by
  unfold fX11_within
  by_cases e : k = 1
  · rw [if_pos e, if_pos e]; rfl
  · rw [if_neg e, if_neg e]
    by_cases a : j ≤ 0
    · rw [if_pos a, if_pos a, if_neg (by omega)]
      by_cases b : k = 2
      · rw [if_pos b, b]; rfl
      · rw [if_neg b, show k = 3 by omega]; rfl
    · rw [if_neg a, if_neg a]; rfl
/-- the reference, once kind and sort are good -/
theorem zX11_open40 {s : jMem} {h k q : Int} (h0 : 0 ≤ h) (h4 : h < 4) (q0 : 0 ≤ q) (q4 : q < 34) (hk : 1 ≤ k ∧ k ≤ 3) (hr : k = 1 → q + 2 < 34) (hb : ∀ p : Int, 0 ≤ p → p < 34 → 0 ≤ vH s h p ∧ vH s h p ≤ 4 ∧ 0 ≤ vL s h p ∧ vL s h p ≤ 4) (hg : 0 ≤ s 58 h ∧ s 58 h ≤ 4) (hhg : yHas (vH s h) k q → s 58 h < 4) : (¬ yHas (vH s h) k q ∧ bX11_open_40 h k q s = some (-2, s)) ∨ (yHas (vH s h) k q ∧ jHo (fun v t => v = s 58 h + 1 ∧ (∀ x : Int, ¬ (56 ≤ x ∧ x ≤ 59) → t x = s x) ∧ (∀ g p : Int, 0 ≤ p → p < 34 → vH t g p = (if g = h then vH s g p - yUse k q p else vH s g p) ∧ vL t g p = (if g = h then vL s g p + yUse k q p else vL s g p)) ∧ (∀ g : Int, t 58 g = if g = h then s 58 g + 1 else s 58 g) ∧ ∀ j : Int, t 59 j = if j = 5 * h + s 58 h then 100 * k + q else s 59 j) (bX11_open_40 h k q s)) := by
  have u := jik_m
  have wd : ∀ (j : Int) (z : jMem), fX11_within k j z = some (if k = 1 then 1 else if j ≤ 0 then k + 1 else 0, z) := fun j z => zX11_within hk
  have eh : ∀ p, s 56 (34 * h + p) = vH s h p := fun p => rfl
  obtain ⟨w, hw⟩ : ∃ w, w = if k = 1 then (3 : Int) else 1 := ⟨_, rfl⟩
  have wb : 1 ≤ w ∧ w ≤ 3 ∧ q + w ≤ 34 := by
    rw [hw]
    split <;> omega
  have e40 : bX11_open_40 h k q s = bX11_open_50 h k q w s := by
    unfold bX11_open_40
    rw [hw]
    split <;> rfl
  rw [e40]
  -- the look
  have look : ∀ P : Int → jMem → Prop, jHo P (bX11_open_106 h k q w (jb (yHas (vH s h) k q)) s) → jHo P (bX11_open_50 h k q w s) := by
    intro P hP
    unfold bX11_open_50
    refine gIt7 (fun a1 a2 a3 a4 a5 j t => a1 = h ∧ a2 = k ∧ a3 = q ∧ a4 = w ∧ t = s ∧ 0 ≤ j ∧ j ≤ w ∧ a5 = jb (∀ i : Nat, i < 3 → (i : Int) < j → (if k = 1 then (1 : Int) else if (i : Int) ≤ 0 then k + 1 else 0) ≤ vH s h (q + (i : Int)))) (fun _ _ _ _ _ j => (3 - j).toNat) ?_ 1000 h k q w 1 0 s ⟨rfl, rfl, rfl, rfl, rfl, by omega, by omega, ?_⟩ (by decide)
    · rintro rec a1 a2 a3 a4 a5 j t ⟨rfl, rfl, rfl, rfl, rfl, j0, j3, rfl⟩ ih
      have ih' : ∀ (j' b : Int), 0 ≤ j' → j' ≤ a4 → (3 - j').toNat < (3 - j).toNat → b = jb (∀ i : Nat, i < 3 → (i : Int) < j' → (if a2 = 1 then (1 : Int) else if (i : Int) ≤ 0 then a2 + 1 else 0) ≤ vH t a1 (a3 + (i : Int))) → jHo P (rec a1 a2 a3 a4 b j' t) := fun j' b p1 p2 p3 p4 => ih _ _ _ _ _ _ _ ⟨rfl, rfl, rfl, rfl, rfl, p1, p2, p4⟩ p3
      unfold bX11_open_58
      refine gHo_if (fun hc => ?_) (fun hc => ?_)
      · have e : j = a4 := by omega
        have eq1 : (∀ i : Nat, i < 3 → (i : Int) < j → (if a2 = 1 then (1 : Int) else if (i : Int) ≤ 0 then a2 + 1 else 0) ≤ vH t a1 (a3 + (i : Int))) ↔ yHas (vH t a1) a2 a3 := by
          unfold yHas
          by_cases ek : a2 = 1
          · rw [if_pos ek] at hw ⊢
            constructor
            · intro z
              have z0 := z 0 (by decide) (by omega)
              have z1 := z 1 (by decide) (by omega)
              have z2 := z 2 (by decide) (by omega)
              rw [if_pos ek] at z0 z1 z2
              rw [show a3 + ((0 : Nat) : Int) = a3 by omega] at z0
              exact ⟨z0, z1, z2⟩
            · intro z i i3 hi
              rw [if_pos ek]
              rcases (by omega : i = 0 ∨ i = 1 ∨ i = 2) with rfl | rfl | rfl
              · rw [show a3 + ((0 : Nat) : Int) = a3 by omega]; exact z.1
              · exact z.2.1
              · exact z.2.2
          · rw [if_neg ek] at hw ⊢
            constructor
            · intro z
              have z0 := z 0 (by decide) (by omega)
              rw [if_neg ek, if_pos (by decide), show a3 + ((0 : Nat) : Int) = a3 by omega] at z0
              exact z0
            · intro z i i3 hi
              have : i = 0 := by omega
              subst this
              rw [if_neg ek, if_pos (by decide), show a3 + ((0 : Nat) : Int) = a3 by omega]
              exact z
        by_cases hy : yHas (vH t a1) a2 a3
        · rw [jb_1 (eq1.mpr hy)]; rw [jb_1 hy] at hP; exact hP
        · rw [jb_0 (fun z => hy (eq1.mp z))]; rw [jb_0 hy] at hP; exact hP
      · by_cases old : ∀ i : Nat, i < 3 → (i : Int) < j → (if a2 = 1 then (1 : Int) else if (i : Int) ≤ 0 then a2 + 1 else 0) ≤ vH t a1 (a3 + (i : Int))
        · rw [jb_1 old, if_neg (by decide)]
          refine gHo_l32 (by omega) (by omega) (gHo_l32 (by omega) (by omega) (gHo_l32 (by omega) (by omega) (gHo_gd ⟨by omega, by omega⟩ (gHo_let ?_))))
          rw [wd, jBd_s, Int.add_assoc, eh]
          obtain ⟨n, hn⟩ : ∃ n : Nat, j = (n : Int) := ⟨j.toNat, by omega⟩
          refine gHo_if (fun hlt => ?_) (fun hlt => ?_)
          · unfold bX11_open_97 bX11_open_98
            refine gHo_l32 (by omega) (by omega) (ih' _ _ (by omega) (by omega) (by omega) ?_)
            rw [jb_0]
            intro z
            have := z n (by omega) (by omega)
            rw [← hn] at this
            omega
          · unfold bX11_open_98
            refine gHo_l32 (by omega) (by omega) (ih' _ _ (by omega) (by omega) (by omega) ?_)
            rw [jb_1]
            intro i i3 hi
            by_cases e : i = n
            · subst e; rw [← hn]; omega
            · exact old i i3 (by omega)
        · rw [jb_0 old, if_pos rfl]
          unfold bX11_open_97 bX11_open_98
          refine gHo_l32 (by omega) (by omega) (ih' _ _ (by omega) (by omega) (by omega) ?_)
          rw [jb_0]
          intro z
          exact old (fun i i3 hi => z i i3 (by omega))
    · rw [jb_1 (fun i i3 hi => by omega)]
  by_cases hy : yHas (vH s h) k q
  · refine Or.inr ⟨hy, look _ ?_⟩
    rw [jb_1 hy]
    unfold bX11_open_106
    rw [if_neg (by decide)]
    have g4 := hhg hy
    refine gIt6 (fun a1 a2 a3 a4 j t => a1 = h ∧ a2 = k ∧ a3 = q ∧ a4 = w ∧ 0 ≤ j ∧ j ≤ w ∧ (∀ x : Int, ¬ (56 ≤ x ∧ x ≤ 57) → t x = s x) ∧ (∀ g p : Int, 0 ≤ p → p < 34 → vH t g p = (if g = h ∧ p < q + j then vH s g p - yUse k q p else vH s g p) ∧ vL t g p = (if g = h ∧ p < q + j then vL s g p + yUse k q p else vL s g p))) (fun _ _ _ _ j => (3 - j).toNat) ?_ 1000 h k q w 0 s ⟨rfl, rfl, rfl, rfl, by omega, by omega, fun _ _ => rfl, fun g p p0 p4 => ?_⟩ (by decide)
    · rintro rec a1 a2 a3 a4 j t ⟨rfl, rfl, rfl, rfl, j0, j3, fr, hv⟩ ih
      unfold bX11_open_117
      refine gHo_if (fun hc => ?_) (fun hc => ?_)
      · have e : j = a4 := by omega
        have f58 := fr 58 (by decide)
        unfold bX11_open_176
        refine gHo_l32 (by omega) (by omega) (gHo_gd ⟨h0, by omega⟩ (gHo_let ?_))
        rw [f58]
        refine gHo_l32 (by omega) (by omega) (gHo_l32 (by omega) (by omega) (gHo_l32 (by omega) (by omega) (gHo_gd ⟨by omega, by omega⟩ (gHo_nm fun t1 ht1 => gHo_gd ⟨h0, by omega⟩ (gHo_let ?_)))))
        have f1 : t1 58 = s 58 := by rw [ht1, jU_row (by decide), f58]
        rw [f1]
        refine gHo_l32 (by omega) (by omega) (gHo_gd ⟨h0, by omega⟩ (gHo_nm fun t2 ht2 => gHo_gd ⟨h0, by omega⟩ (gHo_let (gHo_ret ⟨?_, fun x hx => ?_, fun g p p0 p4 => ?_, fun g => ?_, fun i => ?_⟩))))
        · rw [ht2, jU_at, if_pos rfl]
        · rw [ht2, jU_row (by omega), ht1, jU_row (by omega)]; exact fr x (by omega)
        · have o := hv g p p0 p4
          have e1 : vH t2 g p = vH t g p := by unfold vH; rw [ht2, jU_row (by decide), ht1, jU_row (by decide)]
          have e2 : vL t2 g p = vL t g p := by unfold vL; rw [ht2, jU_row (by decide), ht1, jU_row (by decide)]
          rw [e1, e2, o.1, o.2]
          by_cases eg : g = a1
          · by_cases ep : p < a3 + j
            · simp [eg, ep]
            · have z : yUse a2 a3 p = 0 := by
                unfold yUse
                split at hw
                · rw [if_pos (by assumption), if_neg (by omega)]
                · rw [if_neg (by assumption), if_neg (by omega)]
              simp [eg, ep, z]
          · simp [eg]
        · rw [ht2, jU_at, f1]
          by_cases eg : g = a1
          · rw [if_pos eg, if_pos eg, eg]
          · rw [if_neg eg, if_neg eg]
        · rw [ht2, jU_row (by decide), ht1, jU_at, fr 59 (by decide)]
      · have o := hv a1 (a3 + j) (by omega) (by omega)
        rw [if_neg (by omega), if_neg (by omega)] at o
        have b := hb (a3 + j) (by omega) (by omega)
        have ev : (if a2 = 1 then (1 : Int) else if j ≤ 0 then a2 + 1 else 0) = yUse a2 a3 (a3 + j) := by
          unfold yUse
          by_cases ek : a2 = 1
          · rw [if_pos ek] at hw; rw [if_pos ek, if_pos ek, if_pos (by omega)]
          · rw [if_neg ek] at hw; rw [if_neg ek, if_neg ek, if_pos (by omega), if_pos (by omega)]
        have ub : 0 ≤ yUse a2 a3 (a3 + j) ∧ yUse a2 a3 (a3 + j) ≤ 4 := by
          rw [← ev]
          split
          · omega
          · split <;> omega
        have eo1 : t 56 (34 * a1 + (a3 + j)) = vH s a1 (a3 + j) := o.1
        have eo2 : t 57 (34 * a1 + (a3 + j)) = vL s a1 (a3 + j) := o.2
        refine gHo_l32 (by omega) (by omega) (gHo_l32 (by omega) (by omega) (gHo_l32 (by omega) (by omega) (gHo_gd ⟨by omega, by omega⟩ (gHo_let ?_))))
        rw [wd, jBd_s, Int.add_assoc, eo1, ev]
        refine gHo_l32 (by omega) (by omega) (gHo_gd ⟨by omega, by omega⟩ (gHo_nm fun t1 ht1 => ?_))
        refine gHo_l32 (by omega) (by omega) (gHo_l32 (by omega) (by omega) (gHo_l32 (by omega) (by omega) (gHo_gd ⟨by omega, by omega⟩ (gHo_let ?_))))
        have r57 : t1 57 = t 57 := by rw [ht1, jU_row (by decide)]
        rw [wd, jBd_s, Int.add_assoc, r57, eo2, ev]
        refine gHo_l32 (by omega) (by omega) (gHo_gd ⟨by omega, by omega⟩ (gHo_nm fun t2 ht2 => gHo_l32 (by omega) (by omega) (ih _ _ _ _ _ _ ⟨rfl, rfl, rfl, rfl, by omega, by omega, fun x hx => ?_, fun g p p0 p4 => ?_⟩ (by omega))))
        · rw [ht2, jU_row (by omega), ht1, jU_row (by omega)]; exact fr x hx
        · have op := hv g p p0 p4
          unfold vH vL at op ⊢
          rw [ht2, jU_row (r' := 56) (by decide), jU_at, r57, ht1, jU_at, op.1, op.2]
          have c1 : (34 * g + p = 34 * a1 + (a3 + j)) ↔ (g = a1 ∧ p = a3 + j) := by omega
          have c2 : (g = a1 ∧ p < a3 + (j + 1)) ↔ ((g = a1 ∧ p = a3 + j) ∨ (g = a1 ∧ p < a3 + j)) := by omega
          simp only [c1, c2]
          by_cases e1 : g = a1 ∧ p = a3 + j
          · obtain ⟨rfl, rfl⟩ := e1
            simp [vH, vL]
          · by_cases e2 : g = a1 ∧ p < a3 + j
            · rw [if_neg e1, if_neg e1, if_pos e2, if_pos e2, if_pos (Or.inr e2), if_pos (Or.inr e2)]; exact ⟨rfl, rfl⟩
            · have e3 : ¬ ((g = a1 ∧ p = a3 + j) ∨ (g = a1 ∧ p < a3 + j)) := fun z => z.elim e1 e2
              rw [if_neg e1, if_neg e1, if_neg e2, if_neg e2, if_neg e3, if_neg e3]; exact ⟨rfl, rfl⟩
    · have z : g = h ∧ p < q + 0 → yUse k q p = 0 := by
        intro hz
        unfold yUse
        by_cases ek : k = 1
        · rw [if_pos ek, if_neg (by omega)]
        · rw [if_neg ek, if_neg (by omega)]
      by_cases e : g = h ∧ p < q + 0
      · rw [if_pos e, if_pos e, z e]; omega
      · rw [if_neg e, if_neg e]; exact ⟨rfl, rfl⟩
  · refine Or.inl ⟨hy, ?_⟩
    obtain ⟨v, t, e, rfl, rfl⟩ := look (fun v t => v = -2 ∧ t = s) (by
      rw [jb_0 hy]
      unfold bX11_open_106
      rw [if_pos rfl]
      exact gHo_ret ⟨rfl, rfl⟩)
    exact e
theorem yHas_le {f : Int → Int} {k q : Int} (h : yHas f k q) (p : Int) (hp : 0 ≤ f p) : yUse k q p ≤ f p := by
  unfold yHas at h
  unfold yUse
  by_cases e : k = 1
  · rw [if_pos e] at h ⊢
    by_cases a : p = q ∨ p = q + 1 ∨ p = q + 2
    · rw [if_pos a]
      rcases a with rfl | rfl | rfl
      · exact h.1
      · exact h.2.1
      · exact h.2.2
    · rw [if_neg a]; exact hp
  · rw [if_neg e] at h ⊢
    by_cases a : p = q
    · subst a; rw [if_pos rfl]; exact h
    · rw [if_neg a]; exact hp
theorem yUse_nn {k q p : Int} (hk : 1 ≤ k ∧ k ≤ 3) : 0 ≤ yUse k q p ∧ yUse k q p ≤ 4 := by
  unfold yUse
  split
  · split <;> omega
  · split <;> omega
theorem iT_lay {s t : jMem} {h k q : Int} (hI : iT s) (h0 : 0 ≤ h) (h4 : h < 4) (q0 : 0 ≤ q) (q4 : q < 34) (hk : 1 ≤ k ∧ k ≤ 3) (hr : k = 1 → q < 27 ∧ q % 9 ≤ 6) (hy : yHas (vH s h) k q) (hg : s 58 h < 4) (c38 : ∀ p : Int, 0 ≤ p → p < 34 → t (38 + 4 * h) p = vH s h p - yUse k q p ∧ t (39 + 4 * h) p = vL s h p + yUse k q p) (c3 : t (37 + 4 * h) 3 = jSum (vH s h) 34 - yTl k) (c4 : t (37 + 4 * h) 4 = s 58 h + 1) (c40 : ∀ j : Int, t (40 + 4 * h) j = if j = s 58 h then 100 * k + q else s (40 + 4 * h) j) (co : ∀ x : Int, x = 3 ∨ x = 4 ∨ x = 54 ∨ x = 55 ∨ (37 ≤ x ∧ x < 53 ∧ ¬ (37 + 4 * h ≤ x ∧ x ≤ 40 + 4 * h)) → t x = s x) (mH : ∀ g p : Int, 0 ≤ p → p < 34 → vH t g p = (if g = h then vH s g p - yUse k q p else vH s g p) ∧ vL t g p = (if g = h then vL s g p + yUse k q p else vL s g p)) (m58 : ∀ g : Int, t 58 g = if g = h then s 58 g + 1 else s 58 g) (m59 : ∀ j : Int, t 59 j = if j = 5 * h + s 58 h then 100 * k + q else s 59 j) : iT t := by
  obtain ⟨hW, hH, hG⟩ := id hI
  refine ⟨fun p p0 p4 => ?_, fun g g0 g4 => ?_, fun g g0 g4 => ?_⟩
  · obtain ⟨w1, w2, w3, w4, w5⟩ := hW p p0 p4
    have n0 := mH 0 p p0 p4
    have n1 := mH 1 p p0 p4
    have n2 := mH 2 p p0 p4
    have n3 := mH 3 p p0 p4
    rw [co 3 (by omega), co 4 (by omega), co 54 (by omega), co 55 (by omega), n0.1, n1.1, n2.1, n3.1, n0.2, n1.2, n2.2, n3.2]
    refine ⟨w1, w2, w3, w4, ?_⟩
    rcases (by omega : h = 0 ∨ h = 1 ∨ h = 2 ∨ h = 3) with rfl | rfl | rfl | rfl <;> simp <;> omega
  · obtain ⟨a1, a2, a3, a4, a5, a6⟩ := hH g g0 g4
    have m := m58 g
    by_cases e : g = h
    · subst e
      rw [if_pos rfl] at m
      have z : jSum (vH t g) 34 = jSum (vH s g) 34 - yTl k := by
        rw [jSum_cg (f := vH t g) (g := fun p => vH s g p - yUse k q p) (fun i hi => by have := (mH g i (by omega) (by omega)).1; rw [if_pos rfl] at this; exact this), jSum_sub, yUse_sum q0 q4 (fun z => by have := hr z; omega)]
      have tl : 3 ≤ yTl k := by unfold yTl; split <;> omega
      refine ⟨fun p p0 p4 => ?_, by omega, by omega, by omega, by omega, by omega⟩
      obtain ⟨d2, d3⟩ := c38 p p0 p4
      have n := mH g p p0 p4
      rw [if_pos rfl, if_pos rfl] at n
      have b := a1 p p0 p4
      have le := yHas_le hy p (by omega)
      have nn := yUse_nn (k := k) (q := q) (p := p) hk
      have bd := iT_bd hI h0 h4 p0 p4
      omega
    · rw [if_neg e] at m
      have z : jSum (vH t g) 34 = jSum (vH s g) 34 := jSum_cg (fun i hi => by have := (mH g i (by omega) (by omega)).1; rw [if_neg e] at this; exact this)
      have e37 := co (37 + 4 * g) (by omega)
      refine ⟨fun p p0 p4 => ?_, ?_, by omega, by omega, ?_, by omega⟩
      · have n := mH g p p0 p4
        rw [if_neg e, if_neg e] at n
        rw [co (38 + 4 * g) (by omega), co (39 + 4 * g) (by omega), n.1, n.2]
        exact a1 p p0 p4
      · rw [e37, m]; exact a2
      · rw [e37, z]; exact a5
  · obtain ⟨g1, g2⟩ := hG g g0 g4
    have m := m58 g
    have hb := hH g g0 g4
    have gb : 0 ≤ s 58 g ∧ s 58 g ≤ 4 := ⟨hb.2.2.1, hb.2.2.2.1⟩
    by_cases e : g = h
    · subst e
      rw [if_pos rfl] at m
      refine ⟨fun j j0 j4 => ?_, fun p p0 p4 => ?_⟩
      · rw [c40, m59]
        by_cases ej : j = s 58 g
        · rw [if_pos ej, if_pos (by omega)]
          exact ⟨rfl, k, q, rfl, hk.1, hk.2, q0, q4, hr⟩
        · rw [if_neg ej, if_neg (by omega)]; exact g1 j j0 (by omega)
      · have n := (mH g p p0 p4).2
        rw [if_pos rfl] at n
        have et : (t 58 g).toNat = (s 58 g).toNat + 1 := by omega
        have ec : (((s 58 g).toNat : Nat) : Int) = s 58 g := by omega
        rw [n, et, g2 p p0 p4]
        simp only [jSum]
        rw [ec, m59, if_pos rfl, yUse_c q0 (by omega), jSum_cg (f := fun k => jUse (t 59 (5 * g + k)) p) (g := fun k => jUse (s 59 (5 * g + k)) p) (fun i hi => by rw [m59, if_neg (by omega)])]
    · rw [if_neg e] at m
      have hh := hH h h0 h4
      unfold iG
      rw [m, co (40 + 4 * g) (by omega)]
      have e59 : ∀ j : Int, 0 ≤ j → j < s 58 g → t 59 (5 * g + j) = s 59 (5 * g + j) := fun j j0 j4 => by
        rw [m59, if_neg (by have := hh.2.2.1; omega)]
      refine ⟨fun j j0 j4 => ?_, fun p p0 p4 => ?_⟩
      · rw [e59 j j0 j4]; exact g1 j j0 j4
      · have n := (mH g p p0 p4).2
        rw [if_neg e] at n
        rw [n, g2 p p0 p4]
        exact jSum_cg (fun i hi => by rw [e59 i (by omega) (by omega)])
theorem op_open {h k q : Int} {s : jMem} (hI : iT s) : ∃ v s1 s2, fX10_open h k q s = some (v, s1) ∧ fX11_open h k q s1 = some (v, s2) ∧ iT s2 ∧ fT s s2 := by
  have w := jrk_t
  by_cases hh : 0 ≤ h ∧ h < 4
  · obtain ⟨h0, h4⟩ := hh
    obtain ⟨t0, t1, t2, t3, t4, t5, t6, t7, t8, t9⟩ := jh_t h0 h4
    obtain ⟨hW, hH, hG⟩ := id hI
    obtain ⟨a1, a2, a3, a4, a5, a6⟩ := id (hH h h0 h4)
    by_cases hq : 0 ≤ q ∧ q < 34
    · obtain ⟨q0, q4⟩ := hq
      by_cases hk : 1 ≤ k ∧ k ≤ 3
      · by_cases hr : k = 1 → q < 27 ∧ q % 9 ≤ 6
        · have hr2 : k = 1 → q + 2 < 34 := fun z => by have := hr z; omega
          have eH : ∀ p : Int, 0 ≤ p → p < 34 → s (38 + 4 * h) p = vH s h p := fun p p0 p4 => (a1 p p0 p4).1
          have hyI : yHas (s (38 + 4 * h)) k q ↔ yHas (vH s h) k q := by
            unfold yHas
            by_cases e : k = 1
            · have := hr2 e
              rw [if_pos e, if_pos e, eH q q0 q4, eH (q + 1) (by omega) (by omega), eH (q + 2) (by omega) (by omega)]
            · rw [if_neg e, if_neg e, eH q q0 q4]
          have hsum : yHas (vH s h) k q → yTl k ≤ jSum (vH s h) 34 := by
            intro hy
            rw [← yUse_sum q0 q4 hr2]
            exact jSum_le (fun i hi => yHas_le hy i (a1 i (by omega) (by omega)).2.2.1)
          have tl : 3 ≤ yTl k ∧ (k = 3 → yTl k = 4) := by
            unfold yTl
            by_cases e : k = 1
            · rw [if_pos e]; omega
            · rw [if_neg e]; omega
          have hhg : yHas (vH s h) k q → s 58 h < 4 := fun hy => by have := hsum hy; omega
          have ec : fX10_open h k q s = bX10_open_40 h k q s := by
            rw [fX10_open, sX10_isHand, jBd_s, jb_1 ⟨h0, h4⟩, if_neg (by decide), sX8_isSort, jBd_s, jb_1 ⟨q0, q4⟩, if_neg (by decide), if_neg (by omega), if_pos hk.2]
            by_cases e : k = 1
            · rw [if_pos e, zX8_startsRun q0 (by omega), jBd_s, jb_1 (hr e), if_neg (by decide)]
            · rw [if_neg e]
          have em : ∀ z : jMem, fX11_open h k q z = bX11_open_40 h k q z := by
            intro z
            rw [fX11_open, sX11_isHand, jBd_s, jb_1 ⟨h0, by omega⟩, if_neg (by decide), sX11_in, jBd_s, jb_1 hk, if_neg (by decide), sX11_isSort, jBd_s, jb_1 ⟨q0, by omega⟩, if_neg (by decide)]
            by_cases e : k = 1
            · rw [if_pos e, zX11_begins q0 (by omega), jBd_s, jb_1 (hr e), if_neg (by decide)]
            · rw [if_neg e]
          have hcl := zX1_canLay (s := s) h0 h4 q0 q4 hk hr2
          by_cases hy : yHas (vH s h) k q
          · have h58 := hhg hy
            have hs := hsum hy
            rw [jb_1 ⟨by omega, hyI.mpr hy⟩] at hcl
            obtain ⟨v, s1, e1, fr, f38, f3, f4, f40⟩ := zX1_lay (s := s) h0 h4 q0 q4 hk hr2 (fun p p0 p4 => by
              have b := a1 p p0 p4
              have := yHas_le hy p (by omega)
              omega) (by split <;> omega) (by omega)
            have r56 := fr 56 (by omega)
            have r57 := fr 57 (by omega)
            have r58 := fr 58 (by omega)
            have r59 := fr 59 (by omega)
            have eH1 : ∀ g, vH s1 g = vH s g := fun g => by funext p; unfold vH; rw [r56]
            have eL1 : ∀ g, vL s1 g = vL s g := fun g => by funext p; unfold vL; rw [r57]
            have mm := zX11_open40 (s := s1) h0 h4 q0 q4 hk hr2 (fun p p0 p4 => by rw [eH1, eL1]; have := a1 p p0 p4; omega) (by rw [r58]; omega) (by rw [eH1, r58]; exact hhg)
            rw [eH1, r58] at mm
            rcases mm with ⟨n, -⟩ | ⟨-, v2, s2, e2, hv2, fr2, mH, m58, m59⟩
            · exact absurd hy n
            · rw [r59] at m59
              simp only [eH1, eL1] at mH
              refine ⟨v2, s1, s2, ?_, ?_, ?_, ?_⟩
              · rw [ec]
                unfold bX10_open_40
                rw [jGd_e ⟨h0, by omega⟩, jLet_e, t0, jGd_e t1, hcl, jBd_s, if_neg (by decide), jGd_e ⟨h0, by omega⟩, jLet_e, jGd_e t1, e1, jBd_s, jGd_e ⟨h0, by omega⟩, jLet_e, jGd_e t1, jLet_e, f4, hv2, a2]
                rfl
              · rw [em, e2]
              · refine iT_lay hI h0 h4 q0 q4 hk hr hy h58 (fun p p0 p4 => ?_) ?_ ?_ (fun j => ?_) (fun x hx => ?_) mH m58 m59
                · rw [fr2 (38 + 4 * h) (by omega), fr2 (39 + 4 * h) (by omega)]
                  have := f38 p p0 p4
                  have b := a1 p p0 p4
                  omega
                · rw [fr2 (37 + 4 * h) (by omega), f3, a5]
                · rw [fr2 (37 + 4 * h) (by omega), f4, a2]
                · rw [fr2 (40 + 4 * h) (by omega), f40, a2]
                · rw [fr2 x (by omega)]; exact fr x (by omega)
              · intro x y x3 x4 x5 x6
                rw [fr2 x (by omega), fr x (by omega)]
          · rw [jb_0 (fun z => hy (hyI.mp z.2))] at hcl
            have mm := zX11_open40 (s := s) h0 h4 q0 q4 hk hr2 (fun p p0 p4 => by have := a1 p p0 p4; omega) (by omega) hhg
            rcases mm with ⟨-, e2⟩ | ⟨y, -⟩
            · refine ⟨-2, s, s, ?_, ?_, hI, fT_rf s⟩
              · rw [ec]
                unfold bX10_open_40
                rw [jGd_e ⟨h0, by omega⟩, jLet_e, t0, jGd_e t1, hcl, jBd_s, if_pos rfl]
                rfl
              · rw [em, e2]
            · exact absurd y hy
        · have e : k = 1 := by
            by_cases e : k = 1
            · exact e
            · exact absurd (fun z => absurd z e) hr
          have hn : ¬ (q < 27 ∧ q % 9 ≤ 6) := fun z => hr (fun _ => z)
          refine ⟨-1, s, s, ?_, ?_, hI, fT_rf s⟩
          · rw [fX10_open, sX10_isHand, jBd_s, jb_1 ⟨h0, h4⟩, if_neg (by decide), sX8_isSort, jBd_s, jb_1 ⟨q0, q4⟩, if_neg (by decide), if_neg (by omega), if_pos hk.2, if_pos e, zX8_startsRun q0 (by omega), jBd_s, jb_0 hn, if_pos rfl]; rfl
          · rw [fX11_open, sX11_isHand, jBd_s, jb_1 ⟨h0, by omega⟩, if_neg (by decide), sX11_in, jBd_s, jb_1 hk, if_neg (by decide), sX11_isSort, jBd_s, jb_1 ⟨q0, by omega⟩, if_neg (by decide), if_pos e, zX11_begins q0 (by omega), jBd_s, jb_0 hn, if_pos rfl]; rfl
      · refine ⟨-1, s, s, ?_, ?_, hI, fT_rf s⟩
        · rw [fX10_open, sX10_isHand, jBd_s, jb_1 ⟨h0, h4⟩, if_neg (by decide), sX8_isSort, jBd_s, jb_1 ⟨q0, q4⟩, if_neg (by decide)]
          by_cases e : k < 1
          · rw [if_pos e]; rfl
          · rw [if_neg e, if_neg (by omega)]; rfl
        · rw [fX11_open, sX11_isHand, jBd_s, jb_1 ⟨h0, by omega⟩, if_neg (by decide), sX11_in, jBd_s, jb_0 hk, if_pos rfl]; rfl
    · refine ⟨-1, s, s, ?_, ?_, hI, fT_rf s⟩
      · rw [fX10_open, sX10_isHand, jBd_s, jb_1 ⟨h0, h4⟩, if_neg (by decide), sX8_isSort, jBd_s, jb_0 hq, if_pos rfl]; rfl
      · rw [fX11_open, sX11_isHand, jBd_s, jb_1 ⟨h0, by omega⟩, if_neg (by decide), sX11_in, jBd_s]
        by_cases hk : 1 ≤ k ∧ k ≤ 3
        · rw [jb_1 hk, if_neg (by decide), sX11_isSort, jBd_s, jb_0 (by omega), if_pos rfl]; rfl
        · rw [jb_0 hk, if_pos rfl]; rfl
  · refine ⟨-1, s, s, ?_, ?_, hI, fT_rf s⟩
    · rw [fX10_open, sX10_isHand, jBd_s, jb_0 hh, if_pos rfl]; rfl
    · rw [fX11_open, sX11_isHand, jBd_s, jb_0 (by omega), if_pos rfl]; rfl
end
