theorem inj21 {α1 α2 α3 α4 α5 α6 α7 α8 α9 α10 α11 α12 α13 α14 α15 α16 α17 α18 α19 α20 α21 : Type} {a1 b1 : α1} {a2 b2 : α2} {a3 b3 : α3} {a4 b4 : α4} {a5 b5 : α5} {a6 b6 : α6} {a7 b7 : α7} {a8 b8 : α8} {a9 b9 : α9} {a10 b10 : α10} {a11 b11 : α11} {a12 b12 : α12} {a13 b13 : α13} {a14 b14 : α14} {a15 b15 : α15} {a16 b16 : α16} {a17 b17 : α17} {a18 b18 : α18} {a19 b19 : α19} {a20 b20 : α20} {a21 b21 : α21} (h : some (a1, a2, a3, a4, a5, a6, a7, a8, a9, a10, a11, a12, a13, a14, a15, a16, a17, a18, a19, a20, a21) = some (b1, b2, b3, b4, b5, b6, b7, b8, b9, b10, b11, b12, b13, b14, b15, b16, b17, b18, b19, b20, b21)) : b1 = a1 ∧ b2 = a2 ∧ b3 = a3 ∧ b4 = a4 ∧ b5 = a5 ∧ b6 = a6 ∧ b7 = a7 ∧ b8 = a8 ∧ b9 = a9 ∧ b10 = a10 ∧ b11 = a11 ∧ b12 = a12 ∧ b13 = a13 ∧ b14 = a14 ∧ b15 = a15 ∧ b16 = a16 ∧ b17 = a17 ∧ b18 = a18 ∧ b19 = a19 ∧ b20 = a20 ∧ b21 = a21 := by
  cases h
  exact ⟨rfl, rfl, rfl, rfl, rfl, rfl, rfl, rfl, rfl, rfl, rfl, rfl, rfl, rfl, rfl, rfl, rfl, rfl, rfl, rfl, rfl⟩
theorem inj22 {α1 α2 α3 α4 α5 α6 α7 α8 α9 α10 α11 α12 α13 α14 α15 α16 α17 α18 α19 α20 α21 α22 : Type} {a1 b1 : α1} {a2 b2 : α2} {a3 b3 : α3} {a4 b4 : α4} {a5 b5 : α5} {a6 b6 : α6} {a7 b7 : α7} {a8 b8 : α8} {a9 b9 : α9} {a10 b10 : α10} {a11 b11 : α11} {a12 b12 : α12} {a13 b13 : α13} {a14 b14 : α14} {a15 b15 : α15} {a16 b16 : α16} {a17 b17 : α17} {a18 b18 : α18} {a19 b19 : α19} {a20 b20 : α20} {a21 b21 : α21} {a22 b22 : α22} (h : some (a1, a2, a3, a4, a5, a6, a7, a8, a9, a10, a11, a12, a13, a14, a15, a16, a17, a18, a19, a20, a21, a22) = some (b1, b2, b3, b4, b5, b6, b7, b8, b9, b10, b11, b12, b13, b14, b15, b16, b17, b18, b19, b20, b21, b22)) : b1 = a1 ∧ b2 = a2 ∧ b3 = a3 ∧ b4 = a4 ∧ b5 = a5 ∧ b6 = a6 ∧ b7 = a7 ∧ b8 = a8 ∧ b9 = a9 ∧ b10 = a10 ∧ b11 = a11 ∧ b12 = a12 ∧ b13 = a13 ∧ b14 = a14 ∧ b15 = a15 ∧ b16 = a16 ∧ b17 = a17 ∧ b18 = a18 ∧ b19 = a19 ∧ b20 = a20 ∧ b21 = a21 ∧ b22 = a22 := by
  cases h
  exact ⟨rfl, rfl, rfl, rfl, rfl, rfl, rfl, rfl, rfl, rfl, rfl, rfl, rfl, rfl, rfl, rfl, rfl, rfl, rfl, rfl, rfl, rfl⟩
theorem inj23 {α1 α2 α3 α4 α5 α6 α7 α8 α9 α10 α11 α12 α13 α14 α15 α16 α17 α18 α19 α20 α21 α22 α23 : Type} {a1 b1 : α1} {a2 b2 : α2} {a3 b3 : α3} {a4 b4 : α4} {a5 b5 : α5} {a6 b6 : α6} {a7 b7 : α7} {a8 b8 : α8} {a9 b9 : α9} {a10 b10 : α10} {a11 b11 : α11} {a12 b12 : α12} {a13 b13 : α13} {a14 b14 : α14} {a15 b15 : α15} {a16 b16 : α16} {a17 b17 : α17} {a18 b18 : α18} {a19 b19 : α19} {a20 b20 : α20} {a21 b21 : α21} {a22 b22 : α22} {a23 b23 : α23} (h : some (a1, a2, a3, a4, a5, a6, a7, a8, a9, a10, a11, a12, a13, a14, a15, a16, a17, a18, a19, a20, a21, a22, a23) = some (b1, b2, b3, b4, b5, b6, b7, b8, b9, b10, b11, b12, b13, b14, b15, b16, b17, b18, b19, b20, b21, b22, b23)) : b1 = a1 ∧ b2 = a2 ∧ b3 = a3 ∧ b4 = a4 ∧ b5 = a5 ∧ b6 = a6 ∧ b7 = a7 ∧ b8 = a8 ∧ b9 = a9 ∧ b10 = a10 ∧ b11 = a11 ∧ b12 = a12 ∧ b13 = a13 ∧ b14 = a14 ∧ b15 = a15 ∧ b16 = a16 ∧ b17 = a17 ∧ b18 = a18 ∧ b19 = a19 ∧ b20 = a20 ∧ b21 = a21 ∧ b22 = a22 ∧ b23 = a23 := by
  cases h
  exact ⟨rfl, rfl, rfl, rfl, rfl, rfl, rfl, rfl, rfl, rfl, rfl, rfl, rfl, rfl, rfl, rfl, rfl, rfl, rfl, rfl, rfl, rfl, rfl⟩
theorem inj24 {α1 α2 α3 α4 α5 α6 α7 α8 α9 α10 α11 α12 α13 α14 α15 α16 α17 α18 α19 α20 α21 α22 α23 α24 : Type} {a1 b1 : α1} {a2 b2 : α2} {a3 b3 : α3} {a4 b4 : α4} {a5 b5 : α5} {a6 b6 : α6} {a7 b7 : α7} {a8 b8 : α8} {a9 b9 : α9} {a10 b10 : α10} {a11 b11 : α11} {a12 b12 : α12} {a13 b13 : α13} {a14 b14 : α14} {a15 b15 : α15} {a16 b16 : α16} {a17 b17 : α17} {a18 b18 : α18} {a19 b19 : α19} {a20 b20 : α20} {a21 b21 : α21} {a22 b22 : α22} {a23 b23 : α23} {a24 b24 : α24} (h : some (a1, a2, a3, a4, a5, a6, a7, a8, a9, a10, a11, a12, a13, a14, a15, a16, a17, a18, a19, a20, a21, a22, a23, a24) = some (b1, b2, b3, b4, b5, b6, b7, b8, b9, b10, b11, b12, b13, b14, b15, b16, b17, b18, b19, b20, b21, b22, b23, b24)) : b1 = a1 ∧ b2 = a2 ∧ b3 = a3 ∧ b4 = a4 ∧ b5 = a5 ∧ b6 = a6 ∧ b7 = a7 ∧ b8 = a8 ∧ b9 = a9 ∧ b10 = a10 ∧ b11 = a11 ∧ b12 = a12 ∧ b13 = a13 ∧ b14 = a14 ∧ b15 = a15 ∧ b16 = a16 ∧ b17 = a17 ∧ b18 = a18 ∧ b19 = a19 ∧ b20 = a20 ∧ b21 = a21 ∧ b22 = a22 ∧ b23 = a23 ∧ b24 = a24 := by
  cases h
  exact ⟨rfl, rfl, rfl, rfl, rfl, rfl, rfl, rfl, rfl, rfl, rfl, rfl, rfl, rfl, rfl, rfl, rfl, rfl, rfl, rfl, rfl, rfl, rfl, rfl⟩
theorem inj25 {α1 α2 α3 α4 α5 α6 α7 α8 α9 α10 α11 α12 α13 α14 α15 α16 α17 α18 α19 α20 α21 α22 α23 α24 α25 : Type} {a1 b1 : α1} {a2 b2 : α2} {a3 b3 : α3} {a4 b4 : α4} {a5 b5 : α5} {a6 b6 : α6} {a7 b7 : α7} {a8 b8 : α8} {a9 b9 : α9} {a10 b10 : α10} {a11 b11 : α11} {a12 b12 : α12} {a13 b13 : α13} {a14 b14 : α14} {a15 b15 : α15} {a16 b16 : α16} {a17 b17 : α17} {a18 b18 : α18} {a19 b19 : α19} {a20 b20 : α20} {a21 b21 : α21} {a22 b22 : α22} {a23 b23 : α23} {a24 b24 : α24} {a25 b25 : α25} (h : some (a1, a2, a3, a4, a5, a6, a7, a8, a9, a10, a11, a12, a13, a14, a15, a16, a17, a18, a19, a20, a21, a22, a23, a24, a25) = some (b1, b2, b3, b4, b5, b6, b7, b8, b9, b10, b11, b12, b13, b14, b15, b16, b17, b18, b19, b20, b21, b22, b23, b24, b25)) : b1 = a1 ∧ b2 = a2 ∧ b3 = a3 ∧ b4 = a4 ∧ b5 = a5 ∧ b6 = a6 ∧ b7 = a7 ∧ b8 = a8 ∧ b9 = a9 ∧ b10 = a10 ∧ b11 = a11 ∧ b12 = a12 ∧ b13 = a13 ∧ b14 = a14 ∧ b15 = a15 ∧ b16 = a16 ∧ b17 = a17 ∧ b18 = a18 ∧ b19 = a19 ∧ b20 = a20 ∧ b21 = a21 ∧ b22 = a22 ∧ b23 = a23 ∧ b24 = a24 ∧ b25 = a25 := by
  cases h
  exact ⟨rfl, rfl, rfl, rfl, rfl, rfl, rfl, rfl, rfl, rfl, rfl, rfl, rfl, rfl, rfl, rfl, rfl, rfl, rfl, rfl, rfl, rfl, rfl, rfl, rfl⟩
theorem inj26 {α1 α2 α3 α4 α5 α6 α7 α8 α9 α10 α11 α12 α13 α14 α15 α16 α17 α18 α19 α20 α21 α22 α23 α24 α25 α26 : Type} {a1 b1 : α1} {a2 b2 : α2} {a3 b3 : α3} {a4 b4 : α4} {a5 b5 : α5} {a6 b6 : α6} {a7 b7 : α7} {a8 b8 : α8} {a9 b9 : α9} {a10 b10 : α10} {a11 b11 : α11} {a12 b12 : α12} {a13 b13 : α13} {a14 b14 : α14} {a15 b15 : α15} {a16 b16 : α16} {a17 b17 : α17} {a18 b18 : α18} {a19 b19 : α19} {a20 b20 : α20} {a21 b21 : α21} {a22 b22 : α22} {a23 b23 : α23} {a24 b24 : α24} {a25 b25 : α25} {a26 b26 : α26} (h : some (a1, a2, a3, a4, a5, a6, a7, a8, a9, a10, a11, a12, a13, a14, a15, a16, a17, a18, a19, a20, a21, a22, a23, a24, a25, a26) = some (b1, b2, b3, b4, b5, b6, b7, b8, b9, b10, b11, b12, b13, b14, b15, b16, b17, b18, b19, b20, b21, b22, b23, b24, b25, b26)) : b1 = a1 ∧ b2 = a2 ∧ b3 = a3 ∧ b4 = a4 ∧ b5 = a5 ∧ b6 = a6 ∧ b7 = a7 ∧ b8 = a8 ∧ b9 = a9 ∧ b10 = a10 ∧ b11 = a11 ∧ b12 = a12 ∧ b13 = a13 ∧ b14 = a14 ∧ b15 = a15 ∧ b16 = a16 ∧ b17 = a17 ∧ b18 = a18 ∧ b19 = a19 ∧ b20 = a20 ∧ b21 = a21 ∧ b22 = a22 ∧ b23 = a23 ∧ b24 = a24 ∧ b25 = a25 ∧ b26 = a26 := by
  cases h
  exact ⟨rfl, rfl, rfl, rfl, rfl, rfl, rfl, rfl, rfl, rfl, rfl, rfl, rfl, rfl, rfl, rfl, rfl, rfl, rfl, rfl, rfl, rfl, rfl, rfl, rfl, rfl⟩
theorem inj27 {α1 α2 α3 α4 α5 α6 α7 α8 α9 α10 α11 α12 α13 α14 α15 α16 α17 α18 α19 α20 α21 α22 α23 α24 α25 α26 α27 : Type} {a1 b1 : α1} {a2 b2 : α2} {a3 b3 : α3} {a4 b4 : α4} {a5 b5 : α5} {a6 b6 : α6} {a7 b7 : α7} {a8 b8 : α8} {a9 b9 : α9} {a10 b10 : α10} {a11 b11 : α11} {a12 b12 : α12} {a13 b13 : α13} {a14 b14 : α14} {a15 b15 : α15} {a16 b16 : α16} {a17 b17 : α17} {a18 b18 : α18} {a19 b19 : α19} {a20 b20 : α20} {a21 b21 : α21} {a22 b22 : α22} {a23 b23 : α23} {a24 b24 : α24} {a25 b25 : α25} {a26 b26 : α26} {a27 b27 : α27} (h : some (a1, a2, a3, a4, a5, a6, a7, a8, a9, a10, a11, a12, a13, a14, a15, a16, a17, a18, a19, a20, a21, a22, a23, a24, a25, a26, a27) = some (b1, b2, b3, b4, b5, b6, b7, b8, b9, b10, b11, b12, b13, b14, b15, b16, b17, b18, b19, b20, b21, b22, b23, b24, b25, b26, b27)) : b1 = a1 ∧ b2 = a2 ∧ b3 = a3 ∧ b4 = a4 ∧ b5 = a5 ∧ b6 = a6 ∧ b7 = a7 ∧ b8 = a8 ∧ b9 = a9 ∧ b10 = a10 ∧ b11 = a11 ∧ b12 = a12 ∧ b13 = a13 ∧ b14 = a14 ∧ b15 = a15 ∧ b16 = a16 ∧ b17 = a17 ∧ b18 = a18 ∧ b19 = a19 ∧ b20 = a20 ∧ b21 = a21 ∧ b22 = a22 ∧ b23 = a23 ∧ b24 = a24 ∧ b25 = a25 ∧ b26 = a26 ∧ b27 = a27 := by
  cases h
  exact ⟨rfl, rfl, rfl, rfl, rfl, rfl, rfl, rfl, rfl, rfl, rfl, rfl, rfl, rfl, rfl, rfl, rfl, rfl, rfl, rfl, rfl, rfl, rfl, rfl, rfl, rfl, rfl⟩
def bdp1 {α1 β : Type} (q : α1) (k : α1 → Option β) : Option β := k q
def bdp2 {α1 α2 β : Type} (q : α1 × α2) (k : α1 → α2 → Option β) : Option β := k q.1 q.2
def bdp3 {α1 α2 α3 β : Type} (q : α1 × α2 × α3) (k : α1 → α2 → α3 → Option β) : Option β := k q.1 q.2.1 q.2.2
def bdp4 {α1 α2 α3 α4 β : Type} (q : α1 × α2 × α3 × α4) (k : α1 → α2 → α3 → α4 → Option β) : Option β := k q.1 q.2.1 q.2.2.1 q.2.2.2
def bdp5 {α1 α2 α3 α4 α5 β : Type} (q : α1 × α2 × α3 × α4 × α5) (k : α1 → α2 → α3 → α4 → α5 → Option β) : Option β := k q.1 q.2.1 q.2.2.1 q.2.2.2.1 q.2.2.2.2
def bdp6 {α1 α2 α3 α4 α5 α6 β : Type} (q : α1 × α2 × α3 × α4 × α5 × α6) (k : α1 → α2 → α3 → α4 → α5 → α6 → Option β) : Option β := k q.1 q.2.1 q.2.2.1 q.2.2.2.1 q.2.2.2.2.1 q.2.2.2.2.2
def bdp7 {α1 α2 α3 α4 α5 α6 α7 β : Type} (q : α1 × α2 × α3 × α4 × α5 × α6 × α7) (k : α1 → α2 → α3 → α4 → α5 → α6 → α7 → Option β) : Option β := k q.1 q.2.1 q.2.2.1 q.2.2.2.1 q.2.2.2.2.1 q.2.2.2.2.2.1 q.2.2.2.2.2.2
def bdp8 {α1 α2 α3 α4 α5 α6 α7 α8 β : Type} (q : α1 × α2 × α3 × α4 × α5 × α6 × α7 × α8) (k : α1 → α2 → α3 → α4 → α5 → α6 → α7 → α8 → Option β) : Option β := k q.1 q.2.1 q.2.2.1 q.2.2.2.1 q.2.2.2.2.1 q.2.2.2.2.2.1 q.2.2.2.2.2.2.1 q.2.2.2.2.2.2.2
def bdp9 {α1 α2 α3 α4 α5 α6 α7 α8 α9 β : Type} (q : α1 × α2 × α3 × α4 × α5 × α6 × α7 × α8 × α9) (k : α1 → α2 → α3 → α4 → α5 → α6 → α7 → α8 → α9 → Option β) : Option β := k q.1 q.2.1 q.2.2.1 q.2.2.2.1 q.2.2.2.2.1 q.2.2.2.2.2.1 q.2.2.2.2.2.2.1 q.2.2.2.2.2.2.2.1 q.2.2.2.2.2.2.2.2
def bdp10 {α1 α2 α3 α4 α5 α6 α7 α8 α9 α10 β : Type} (q : α1 × α2 × α3 × α4 × α5 × α6 × α7 × α8 × α9 × α10) (k : α1 → α2 → α3 → α4 → α5 → α6 → α7 → α8 → α9 → α10 → Option β) : Option β := k q.1 q.2.1 q.2.2.1 q.2.2.2.1 q.2.2.2.2.1 q.2.2.2.2.2.1 q.2.2.2.2.2.2.1 q.2.2.2.2.2.2.2.1 q.2.2.2.2.2.2.2.2.1 q.2.2.2.2.2.2.2.2.2
def bdp11 {α1 α2 α3 α4 α5 α6 α7 α8 α9 α10 α11 β : Type} (q : α1 × α2 × α3 × α4 × α5 × α6 × α7 × α8 × α9 × α10 × α11) (k : α1 → α2 → α3 → α4 → α5 → α6 → α7 → α8 → α9 → α10 → α11 → Option β) : Option β := k q.1 q.2.1 q.2.2.1 q.2.2.2.1 q.2.2.2.2.1 q.2.2.2.2.2.1 q.2.2.2.2.2.2.1 q.2.2.2.2.2.2.2.1 q.2.2.2.2.2.2.2.2.1 q.2.2.2.2.2.2.2.2.2.1 q.2.2.2.2.2.2.2.2.2.2
def bdp12 {α1 α2 α3 α4 α5 α6 α7 α8 α9 α10 α11 α12 β : Type} (q : α1 × α2 × α3 × α4 × α5 × α6 × α7 × α8 × α9 × α10 × α11 × α12) (k : α1 → α2 → α3 → α4 → α5 → α6 → α7 → α8 → α9 → α10 → α11 → α12 → Option β) : Option β := k q.1 q.2.1 q.2.2.1 q.2.2.2.1 q.2.2.2.2.1 q.2.2.2.2.2.1 q.2.2.2.2.2.2.1 q.2.2.2.2.2.2.2.1 q.2.2.2.2.2.2.2.2.1 q.2.2.2.2.2.2.2.2.2.1 q.2.2.2.2.2.2.2.2.2.2.1 q.2.2.2.2.2.2.2.2.2.2.2
/-- a copy of n items from sp on (of n0) to dp on (of n1) -/
def cpo (sp dp n : Int32) (n0 n1 : Nat) : Option Unit := if ¬ sp < 0 ∧ ¬ dp < 0 ∧ ¬ n < 0 ∧ sp.toNatClampNeg + n.toNatClampNeg ≤ n0 ∧ dp.toNatClampNeg + n.toNatClampNeg ≤ n1 then some () else none
theorem cpo_h {sp dp n : Int32} {n0 n1 : Nat} (h : cpo sp dp n n0 n1 = some ()) : ¬ sp < 0 ∧ ¬ dp < 0 ∧ ¬ n < 0 ∧ sp.toNatClampNeg + n.toNatClampNeg ≤ n0 ∧ dp.toNatClampNeg + n.toNatClampNeg ≤ n1 := by
  unfold cpo at h
  split at h
  · assumption
  · cases h
theorem ix_lt {i : Int32} {n j : Nat} (h : ix i n = some j) : j < n := by
  obtain ⟨h1, h2⟩ := ix_in h
  rcases Nat.lt_or_ge j n with q | q
  · exact q
  · exact absurd (Or.inr (by rw [h2]; exact q)) h1
theorem ix4 {i : Int32} {j : Nat} (h : ix i 4 = some j) : j = 0 ∨ j = 1 ∨ j = 2 ∨ j = 3 := by
  have := ix_lt h
  omega
theorem ix8 {i : Int32} {j : Nat} (h : ix i 8 = some j) : j = 0 ∨ j = 1 ∨ j = 2 ∨ j = 3 ∨ j = 4 ∨ j = 5 ∨ j = 6 ∨ j = 7 := by
  have := ix_lt h
  omega
theorem Cut.idx2 {w w0 w1 w' : va_W} (isC isR perm : List Nat) (hC : isC.map (fun i => w[i]?) = w0.map some) (hR : isR.map (fun i => w[i]?) = (isR.filterMap (fun i => w[i]?)).map some) (hp : perm.map (fun i => (isR.filterMap (fun i => w[i]?) ++ w1)[i]?) = w'.map some) (hnC : va_nd isC = true) (hnR : va_nd isR = true) (hnp : va_nd perm = true) (hdis : ∀ i ∈ isR, i ∉ isC) : Cut w w0 w1 w' := Cut.idx isC isR perm hC hR hp hnC hnR hnp hdis
theorem g_aald {p : Program} {l : Launch} {e : Env} {R : Room} {s : State} {m : MethodId} {args : Array Value} {below : List Frame} {meth : Method} {c : Code} {H : Heap} {locs : List Loc} {Q : State → Prop} {cc : ByteArray} {nL : Nat} {ret : Option FieldType} {own : String} {d : va_G} {cy : Nat → ClassId} {A : Nat → Prop} {w : va_W} {pc : Nat} {ls : Array Slot} {rest : List Value} {a : Nat} (F : Fx p l s m args meth c cc nL ret own d cy A) (t0 : Nat) {C : String} (ht : (tysL cy)[t0]? = some (cy t0, .object C)) (hw : Wd d A s.heap w H locs) (q0 : Nat) {n : Nat} {f : Nat → Nat} (ha : w[q0]? = some (a, .inl (cy t0, n, .inr (.inr (.inr (.inr (fun i => some (f i)))))))) {i : Int32} {j : Nat} (hk : ix i n = some j) (hdg : decode cc pc = .ok (.aaload, 1))
    (kk : W p l e R s m args below meth c H locs 0 0 Q (F0 m (pc + 1) ls (.ref (f j) :: rest))) : W p l e R s m args below meth c H locs 0 0 Q (F0 m pc ls (.int i :: .ref a :: rest)) := by
  obtain ⟨h1, rfl⟩ := ix_in hk
  exact va_aldq F.1 F.2.1 F.2.2.2.2.2.2.2.1.1 hw.1 q0 t0 ha ht h1 hdg kk
/-! cuts by parts -/
theorem pm_P {d : va_G} {cl : List vw_C} {w v : va_W} {H : Heap} (h : ∀ q, q ∈ v → q ∈ w) (hP : va_P d cl w H) : va_P d cl v H := fun k q hk => by
  obtain ⟨i, hi⟩ := List.getElem?_of_mem (h q (List.mem_of_getElem? hk))
  exact hP i q hi
theorem pm_Dn {A : Nat → Prop} {w : va_W} (h : va_D A w) : (w.map Prod.fst).Nodup := by
  rw [List.Nodup, List.pairwise_iff_getElem]
  intro i j hi hj hij e
  have hi' : i < w.length := by simpa using hi
  have hj' : j < w.length := by simpa using hj
  have := h.1 i j w[i] w[j] (List.getElem?_eq_getElem hi') (List.getElem?_eq_getElem hj') (by simpa using e)
  omega
theorem pm_Dof {A : Nat → Prop} {w : va_W} (h : (w.map Prod.fst).Nodup) (hA : ∀ q ∈ w, A q.1) : va_D A w := by
  refine ⟨fun i j p q hp hq e => ?_, fun k q hk => hA q (List.mem_of_getElem? hk)⟩
  rw [List.Nodup, List.pairwise_iff_getElem] at h
  obtain ⟨hi, ei⟩ := List.getElem?_eq_some_iff.mp hp
  obtain ⟨hj, ej⟩ := List.getElem?_eq_some_iff.mp hq
  rcases Nat.lt_trichotomy i j with c | c | c
  · exact (h i j (by simpa using hi) (by simpa using hj) c (by rw [List.getElem_map, List.getElem_map, ei, ej, e])).elim
  · exact c
  · exact (h j i (by simpa using hj) (by simpa using hi) c (by rw [List.getElem_map, List.getElem_map, ei, ej, e])).elim
theorem pm_D {A : Nat → Prop} {w v : va_W} (h : w.Perm v) (hD : va_D A w) : va_D A v :=
  pm_Dof ((h.map Prod.fst).nodup_iff.mp (pm_Dn hD)) (fun q hq => by
    obtain ⟨i, hi⟩ := List.getElem?_of_mem (h.mem_iff.mpr hq)
    exact hD.2 i q hi)
def SCut (w w0 w1 w' : va_W) : Prop := ∃ r : va_W, w.Perm (w0 ++ r) ∧ w'.Perm (w1 ++ r)
theorem SCut.cut {w w0 w1 w' : va_W} (h : SCut w w0 w1 w') : Cut w w0 w1 w' := by
  obtain ⟨r, h1, h2⟩ := h
  refine ⟨fun d H hP => pm_P (fun q hq => h1.mem_iff.mpr (List.mem_append_left _ hq)) hP, fun A hD => ?_, fun d A H H1 hP hD hk hF hP1 hD1 => ?_⟩
  · have h3 := pm_D h1 hD
    refine pm_Dof ?_ (fun q hq => ?_)
    · have h4 := pm_Dn h3
      rw [List.map_append] at h4
      exact (List.nodup_append.mp h4).1
    · obtain ⟨i, hi⟩ := List.getElem?_of_mem (List.mem_append_left r hq)
      exact h3.2 i q hi
  · have h3 := pm_D h1 hD
    have h4 := pm_Dn h3
    rw [List.map_append] at h4
    have h5 := List.nodup_append.mp h4
    have hr : ∀ q ∈ r, q.1 < H.size ∧ ¬ va_A w0 H.size q.1 := by
      intro q hq
      obtain ⟨i, hi⟩ := List.getElem?_of_mem (h1.mem_iff.mpr (List.mem_append_right _ hq))
      have hl := (hP i q hi).lt
      refine ⟨hl, ?_⟩
      rintro (⟨k, e, z⟩ | z)
      · exact h5.2.2 q.1 (List.mem_map.mpr ⟨(q.1, e), List.mem_of_getElem? z, rfl⟩) q.1 (List.mem_map.mpr ⟨q, hq, rfl⟩) rfl
      · omega
    refine ⟨?_, pm_D h2.symm (pm_Dof ?_ ?_)⟩
    · refine pm_P (w := w1 ++ r) (fun q hq => h2.mem_iff.mp hq) (va_P.app hP1 (fun k q hk2 => ?_))
      have hq := List.mem_of_getElem? hk2
      obtain ⟨i, hi⟩ := List.getElem?_of_mem (h1.mem_iff.mpr (List.mem_append_right _ hq))
      exact (hP i q hi).kept (hk q.1 (hr q hq).1 (hr q hq).2)
    · rw [List.map_append]
      refine List.nodup_append.mpr ⟨pm_Dn hD1, h5.2.1, ?_⟩
      intro a ha b hb e
      obtain ⟨x, hx, rfl⟩ := List.mem_map.mp ha
      obtain ⟨y, hy, rfl⟩ := List.mem_map.mp hb
      obtain ⟨i, hi⟩ := List.getElem?_of_mem hx
      exact (hr y hy).2 (e ▸ hD1.2 i x hi)
    · intro q hq
      rcases List.mem_append.mp hq with z | z
      · obtain ⟨i, hi⟩ := List.getElem?_of_mem z
        exact hF q.1 (hD1.2 i q hi)
      · obtain ⟨i, hi⟩ := List.getElem?_of_mem (h1.mem_iff.mpr (List.mem_append_right _ z))
        exact hD.2 i q hi
theorem SCut.rf {w w1 : va_W} : SCut w w w1 w1 := ⟨[], by simp, by simp⟩
theorem SCut.nl {w : va_W} : SCut w [] [] w := ⟨w, by simp, by simp⟩
theorem SCut.mid {w w0 w1 w' : va_W} (l1 l2 : va_W) (h : w = l1 ++ (w0 ++ l2)) (h' : w' = l1 ++ (w1 ++ l2)) : SCut w w0 w1 w' := by
  subst h
  subst h'
  refine ⟨l1 ++ l2, ?_, ?_⟩
  · rw [← List.append_assoc, ← List.append_assoc]
    exact List.perm_append_comm.append_right l2
  · rw [← List.append_assoc, ← List.append_assoc]
    exact List.perm_append_comm.append_right l2
theorem SCut.skip {b : va_W} {L L' : List va_W} {w0 w1 : va_W} (h : SCut L.flatten w0 w1 L'.flatten) : SCut (b :: L).flatten w0 w1 (b :: L').flatten := by
  obtain ⟨r, h1, h2⟩ := h
  refine ⟨b ++ r, ?_, ?_⟩
  · rw [List.flatten_cons, ← List.append_assoc]
    exact (h1.append_left b).trans (by rw [← List.append_assoc]; exact List.perm_append_comm.append_right r)
  · rw [List.flatten_cons, ← List.append_assoc]
    exact (h2.append_left b).trans (by rw [← List.append_assoc]; exact List.perm_append_comm.append_right r)
theorem pm_4 (a b c e : va_W) : ((a ++ b) ++ (c ++ e)).Perm ((a ++ c) ++ (b ++ e)) := by
  rw [List.append_assoc, List.append_assoc]
  refine List.Perm.append_left a ?_
  rw [← List.append_assoc, ← List.append_assoc]
  exact List.perm_append_comm.append_right e
theorem SCut.take {b b' c c' : va_W} {L L' C C' : List va_W} (hb : SCut b c c' b') (h : SCut L.flatten C.flatten C'.flatten L'.flatten) : SCut (b :: L).flatten (c :: C).flatten (c' :: C').flatten (b' :: L').flatten := by
  obtain ⟨r1, h1, h2⟩ := hb
  obtain ⟨r2, h3, h4⟩ := h
  refine ⟨r1 ++ r2, ?_, ?_⟩
  · rw [List.flatten_cons, List.flatten_cons]
    exact (h1.append h3).trans (pm_4 _ _ _ _)
  · rw [List.flatten_cons, List.flatten_cons]
    exact (h2.append h4).trans (pm_4 _ _ _ _)
theorem SCut.none {L : List va_W} : SCut L.flatten ([] : List va_W).flatten ([] : List va_W).flatten L.flatten := SCut.nl
theorem SCut.one {w c c' w' : va_W} (h : SCut w [c].flatten [c'].flatten w') : SCut w c c' w' := by
  simpa [List.flatten_cons, List.flatten_nil] using h
theorem pm_fl : ∀ {L M : List va_W}, L.Perm M → L.flatten.Perm M.flatten := by
  intro L M h
  induction h with
  | nil => exact List.Perm.refl _
  | cons x _ ih => rw [List.flatten_cons, List.flatten_cons]; exact ih.append_left x
  | swap x y l =>
    simp only [List.flatten_cons]
    rw [← List.append_assoc, ← List.append_assoc]
    exact List.perm_append_comm.append_right _
  | trans _ _ h1 h2 => exact h1.trans h2
/-- the parts in another order -/
theorem SCut.ord {w w' : va_W} (C C' : List va_W) (is : List Nat) (hp : is.Perm (List.range C.length)) (hl : C'.length = C.length) (h : SCut w C.flatten C'.flatten w') : SCut w (is.map (fun i => C.getD i [])).flatten (is.map (fun i => C'.getD i [])).flatten w' := by
  have key : ∀ D : List va_W, is.Perm (List.range D.length) → (is.map (fun i => D.getD i [])).Perm D := by
    intro D hD
    have e : (List.range D.length).map (fun i => D.getD i []) = D := by
      apply List.ext_getElem (by simp)
      intro i h1 h2
      simp [List.getD, List.getElem?_eq_getElem h2]
    exact (hD.map _).trans (by rw [e])
  obtain ⟨r, h1, h2⟩ := h
  exact ⟨r, h1.trans ((pm_fl (key C hp)).symm.append_right r), h2.trans ((pm_fl (key C' (by rw [hl]; exact hp))).symm.append_right r)⟩
