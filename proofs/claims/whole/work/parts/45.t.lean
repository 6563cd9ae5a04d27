theorem am_clash {a c : Prop} {b : Prop} (h : a) (f : b) (e : (a → b → False) := by exact fun x y => by first | exact x y | exact y x) : c := (e h f).elim
theorem am_let1 {a r c : Prop} (k : a ∧ r) (f : a → r → c) : c := f k.1 k.2
theorem am_let2 {a b r c : Prop} (k : a ∧ b ∧ r) (f : a → b → r → c) : c := f k.1 k.2.1 k.2.2
theorem am_let3 {a b e r c : Prop} (k : a ∧ b ∧ e ∧ r) (f : a → b → e → r → c) : c := f k.1 k.2.1 k.2.2.1 k.2.2.2
theorem am_let4 {a b e g r c : Prop} (k : a ∧ b ∧ e ∧ g ∧ r) (f : a → b → e → g → r → c) : c := f k.1 k.2.1 k.2.2.1 k.2.2.2.1 k.2.2.2.2
theorem am_let5 {a b e g h r c : Prop} (k : a ∧ b ∧ e ∧ g ∧ h ∧ r) (f : a → b → e → g → h → r → c) : c := f k.1 k.2.1 k.2.2.1 k.2.2.2.1 k.2.2.2.2.1 k.2.2.2.2.2
theorem am_let6 {a b e g h i r c : Prop} (k : a ∧ b ∧ e ∧ g ∧ h ∧ i ∧ r) (f : a → b → e → g → h → i → r → c) : c := f k.1 k.2.1 k.2.2.1 k.2.2.2.1 k.2.2.2.2.1 k.2.2.2.2.2.1 k.2.2.2.2.2.2
