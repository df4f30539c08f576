/-! Between lines: what both sides keep. -/
def wP (b o : Int) (μ ν : am_M) : Int → Int → Int := fun c x => if c = 0 then ν 1002 (o + x) else if c = 1 then ν 1008 (o + x) - o else if c = 2 then ν 1009 (o + x) - o else if c = 3 then μ (b + 7) x else if c = 4 then μ 22 x else if c = 5 then ν 1034 x - 60 else ν 1035 x
/-- a bill that has its give -/
def BW (b o oc oB W k f n t S : Int) (Wn σ : Int → Int) (μ ν : am_M) : Prop := (μ (b + 15) k = f ∧ ν 1017 (oB + k) = f) ∧ (μ (b + 16) k = n ∧ ν 1018 (oB + k) = n) ∧ (μ (b + 17) k = t ∧ ν 1019 (oB + k) = t) ∧ (μ (b + 18) k = S ∧ ν 1020 (oB + k) = S) ∧ (0 ≤ f ∧ t + 1 ≤ n ∧ f + n ≤ 60) ∧ (0 ≤ t ∧ t ≤ 4) ∧ (σ f = 0) ∧ (σ (f + n) = S) ∧ (0 ≤ S ∧ S ≤ 10) ∧ (∀ l, f ≤ l → l < f + n → ∃ u, LR b o oc W (σ (l + 1)) u l Wn μ ν ∧ LQ o oB (k + 1) u l (σ l) (σ (l + 1)) ν) ∧ (∀ i, 0 ≤ i → i < t → ν 1002 (o + (f + i)) = 0 ∧ ν 1003 (o + (f + i)) = i) ∧ (BL (wP b o μ ν) 3 (f + t) (f + n - 1)) ∧ (ν 1002 (o + (f + n - 1)) = 8)
theorem BW.r15 {b o oc oB W k f n t S : Int} {Wn σ : Int → Int} {μ ν : am_M} (h : BW b o oc oB W k f n t S Wn σ μ ν) : μ (b + 15) k = f ∧ ν 1017 (oB + k) = f := h.1
theorem BW.r16 {b o oc oB W k f n t S : Int} {Wn σ : Int → Int} {μ ν : am_M} (h : BW b o oc oB W k f n t S Wn σ μ ν) : μ (b + 16) k = n ∧ ν 1018 (oB + k) = n := h.2.1
theorem BW.r17 {b o oc oB W k f n t S : Int} {Wn σ : Int → Int} {μ ν : am_M} (h : BW b o oc oB W k f n t S Wn σ μ ν) : μ (b + 17) k = t ∧ ν 1019 (oB + k) = t := h.2.2.1
theorem BW.r18 {b o oc oB W k f n t S : Int} {Wn σ : Int → Int} {μ ν : am_M} (h : BW b o oc oB W k f n t S Wn σ μ ν) : μ (b + 18) k = S ∧ ν 1020 (oB + k) = S := h.2.2.2.1
theorem BW.fn {b o oc oB W k f n t S : Int} {Wn σ : Int → Int} {μ ν : am_M} (h : BW b o oc oB W k f n t S Wn σ μ ν) : 0 ≤ f ∧ t + 1 ≤ n ∧ f + n ≤ 60 := h.2.2.2.2.1
theorem BW.tt {b o oc oB W k f n t S : Int} {Wn σ : Int → Int} {μ ν : am_M} (h : BW b o oc oB W k f n t S Wn σ μ ν) : 0 ≤ t ∧ t ≤ 4 := h.2.2.2.2.2.1
theorem BW.s0 {b o oc oB W k f n t S : Int} {Wn σ : Int → Int} {μ ν : am_M} (h : BW b o oc oB W k f n t S Wn σ μ ν) : σ f = 0 := h.2.2.2.2.2.2.1
theorem BW.sn {b o oc oB W k f n t S : Int} {Wn σ : Int → Int} {μ ν : am_M} (h : BW b o oc oB W k f n t S Wn σ μ ν) : σ (f + n) = S := h.2.2.2.2.2.2.2.1
theorem BW.sx {b o oc oB W k f n t S : Int} {Wn σ : Int → Int} {μ ν : am_M} (h : BW b o oc oB W k f n t S Wn σ μ ν) : 0 ≤ S ∧ S ≤ 10 := h.2.2.2.2.2.2.2.2.1
theorem BW.ln {b o oc oB W k f n t S : Int} {Wn σ : Int → Int} {μ ν : am_M} (h : BW b o oc oB W k f n t S Wn σ μ ν) : ∀ l, f ≤ l → l < f + n → ∃ u, LR b o oc W (σ (l + 1)) u l Wn μ ν ∧ LQ o oB (k + 1) u l (σ l) (σ (l + 1)) ν := h.2.2.2.2.2.2.2.2.2.1
theorem BW.tk {b o oc oB W k f n t S : Int} {Wn σ : Int → Int} {μ ν : am_M} (h : BW b o oc oB W k f n t S Wn σ μ ν) : ∀ i, 0 ≤ i → i < t → ν 1002 (o + (f + i)) = 0 ∧ ν 1003 (o + (f + i)) = i := h.2.2.2.2.2.2.2.2.2.2.1
theorem BW.bk {b o oc oB W k f n t S : Int} {Wn σ : Int → Int} {μ ν : am_M} (h : BW b o oc oB W k f n t S Wn σ μ ν) : BL (wP b o μ ν) 3 (f + t) (f + n - 1) := h.2.2.2.2.2.2.2.2.2.2.2.1
theorem BW.gv {b o oc oB W k f n t S : Int} {Wn σ : Int → Int} {μ ν : am_M} (h : BW b o oc oB W k f n t S Wn σ μ ν) : ν 1002 (o + (f + n - 1)) = 8 := h.2.2.2.2.2.2.2.2.2.2.2.2
theorem BW.mk {b o oc oB W k f n t S : Int} {Wn σ : Int → Int} {μ ν : am_M} (r15 : μ (b + 15) k = f ∧ ν 1017 (oB + k) = f) (r16 : μ (b + 16) k = n ∧ ν 1018 (oB + k) = n) (r17 : μ (b + 17) k = t ∧ ν 1019 (oB + k) = t) (r18 : μ (b + 18) k = S ∧ ν 1020 (oB + k) = S) (fn : 0 ≤ f ∧ t + 1 ≤ n ∧ f + n ≤ 60) (tt : 0 ≤ t ∧ t ≤ 4) (s0 : σ f = 0) (sn : σ (f + n) = S) (sx : 0 ≤ S ∧ S ≤ 10) (ln : ∀ l, f ≤ l → l < f + n → ∃ u, LR b o oc W (σ (l + 1)) u l Wn μ ν ∧ LQ o oB (k + 1) u l (σ l) (σ (l + 1)) ν) (tk : ∀ i, 0 ≤ i → i < t → ν 1002 (o + (f + i)) = 0 ∧ ν 1003 (o + (f + i)) = i) (bk : BL (wP b o μ ν) 3 (f + t) (f + n - 1)) (gv : ν 1002 (o + (f + n - 1)) = 8) : BW b o oc oB W k f n t S Wn σ μ ν := ⟨r15, r16, r17, r18, fn, tt, s0, sn, sx, ln, tk, bk, gv⟩
def FB (b W K lim : Int) (Wn : Int → Int) (μ ν : am_M) : Prop := ∀ k, 0 ≤ k → k < K → ∃ f n t S σ, (f + n ≤ lim ∧ ∀ j, k < j → j < K → f + n ≤ ν 1017 (4 + j)) ∧ BW b 60 1000 4 W k f n t S Wn σ μ ν
def PB (b B W : Int) (Wn : Int → Int) (μ ν : am_M) : Prop := (TR μ ν) ∧ (RD b μ) ∧ (NW b μ ν) ∧ (ν 1013 4 = B) ∧ (ν 1013 3 = W) ∧ (μ (b + 1) 10 = ν 1013 5) ∧ (0 ≤ ν 1013 5 ∧ ν 1013 5 ≤ 60) ∧ (0 ≤ μ (b + 1) 11) ∧ (μ (b + 1) 11 ≤ μ 10 3) ∧ (1000 ≤ ν 1000 30) ∧ (ν 1000 30 ≤ 1000 + μ 10 3) ∧ (μ 20 13 = ν 1000 43) ∧ (∀ w, r32 (Wn w)) ∧ (∀ w, 0 ≤ w → w < W → Wn w = ν 1015 (4 + w)) ∧ (∀ l, 0 ≤ l → l < ν 1013 5 → (∃ S u, S ≤ 10 ∧ LR b 60 1000 W S u l Wn μ ν) ∧ μ (b + 10) l ≤ μ (b + 1) 11 ∧ ν 1011 (60 + l) ≤ ν 1000 30)
theorem PB.tr {b B W : Int} {Wn : Int → Int} {μ ν : am_M} (h : PB b B W Wn μ ν) : TR μ ν := h.1
theorem PB.rd {b B W : Int} {Wn : Int → Int} {μ ν : am_M} (h : PB b B W Wn μ ν) : RD b μ := h.2.1
theorem PB.nw {b B W : Int} {Wn : Int → Int} {μ ν : am_M} (h : PB b B W Wn μ ν) : NW b μ ν := h.2.2.1
theorem PB.cB {b B W : Int} {Wn : Int → Int} {μ ν : am_M} (h : PB b B W Wn μ ν) : ν 1013 4 = B := h.2.2.2.1
theorem PB.cW {b B W : Int} {Wn : Int → Int} {μ ν : am_M} (h : PB b B W Wn μ ν) : ν 1013 3 = W := h.2.2.2.2.1
theorem PB.cn {b B W : Int} {Wn : Int → Int} {μ ν : am_M} (h : PB b B W Wn μ ν) : μ (b + 1) 10 = ν 1013 5 := h.2.2.2.2.2.1
theorem PB.c6 {b B W : Int} {Wn : Int → Int} {μ ν : am_M} (h : PB b B W Wn μ ν) : 0 ≤ ν 1013 5 ∧ ν 1013 5 ≤ 60 := h.2.2.2.2.2.2.1
theorem PB.p0 {b B W : Int} {Wn : Int → Int} {μ ν : am_M} (h : PB b B W Wn μ ν) : 0 ≤ μ (b + 1) 11 := h.2.2.2.2.2.2.2.1
theorem PB.cap {b B W : Int} {Wn : Int → Int} {μ ν : am_M} (h : PB b B W Wn μ ν) : μ (b + 1) 11 ≤ μ 10 3 := h.2.2.2.2.2.2.2.2.1
theorem PB.q0 {b B W : Int} {Wn : Int → Int} {μ ν : am_M} (h : PB b B W Wn μ ν) : 1000 ≤ ν 1000 30 := h.2.2.2.2.2.2.2.2.2.1
theorem PB.caq {b B W : Int} {Wn : Int → Int} {μ ν : am_M} (h : PB b B W Wn μ ν) : ν 1000 30 ≤ 1000 + μ 10 3 := h.2.2.2.2.2.2.2.2.2.2.1
theorem PB.op {b B W : Int} {Wn : Int → Int} {μ ν : am_M} (h : PB b B W Wn μ ν) : μ 20 13 = ν 1000 43 := h.2.2.2.2.2.2.2.2.2.2.2.1
theorem PB.wr {b B W : Int} {Wn : Int → Int} {μ ν : am_M} (h : PB b B W Wn μ ν) : ∀ w, r32 (Wn w) := h.2.2.2.2.2.2.2.2.2.2.2.2.1
theorem PB.wn {b B W : Int} {Wn : Int → Int} {μ ν : am_M} (h : PB b B W Wn μ ν) : ∀ w, 0 ≤ w → w < W → Wn w = ν 1015 (4 + w) := h.2.2.2.2.2.2.2.2.2.2.2.2.2.1
theorem PB.al {b B W : Int} {Wn : Int → Int} {μ ν : am_M} (h : PB b B W Wn μ ν) : ∀ l, 0 ≤ l → l < ν 1013 5 → (∃ S u, S ≤ 10 ∧ LR b 60 1000 W S u l Wn μ ν) ∧ μ (b + 10) l ≤ μ (b + 1) 11 ∧ ν 1011 (60 + l) ≤ ν 1000 30 := h.2.2.2.2.2.2.2.2.2.2.2.2.2.2
theorem PB.mk {b B W : Int} {Wn : Int → Int} {μ ν : am_M} (tr : TR μ ν) (rd : RD b μ) (nw : NW b μ ν) (cB : ν 1013 4 = B) (cW : ν 1013 3 = W) (cn : μ (b + 1) 10 = ν 1013 5) (c6 : 0 ≤ ν 1013 5 ∧ ν 1013 5 ≤ 60) (p0 : 0 ≤ μ (b + 1) 11) (cap : μ (b + 1) 11 ≤ μ 10 3) (q0 : 1000 ≤ ν 1000 30) (caq : ν 1000 30 ≤ 1000 + μ 10 3) (op : μ 20 13 = ν 1000 43) (wr : ∀ w, r32 (Wn w)) (wn : ∀ w, 0 ≤ w → w < W → Wn w = ν 1015 (4 + w)) (al : ∀ l, 0 ≤ l → l < ν 1013 5 → (∃ S u, S ≤ 10 ∧ LR b 60 1000 W S u l Wn μ ν) ∧ μ (b + 10) l ≤ μ (b + 1) 11 ∧ ν 1011 (60 + l) ≤ ν 1000 30) : PB b B W Wn μ ν := ⟨tr, rd, nw, cB, cW, cn, c6, p0, cap, q0, caq, op, wr, wn, al⟩
/-- the bill that is read -/
def OB (b B W f T D : Int) (Wn σ : Int → Int) (μ ν : am_M) : Prop := (μ 20 11 = B - 1) ∧ (1 ≤ B) ∧ (μ (b + 15) (B - 1) = f ∧ ν 1017 (3 + B) = f) ∧ (μ (b + 16) (B - 1) = ν 1013 5 - f ∧ ν 1018 (3 + B) = ν 1013 5 - f) ∧ (μ (b + 17) (B - 1) = T ∧ ν 1019 (3 + B) = T) ∧ (0 ≤ f ∧ 0 ≤ T ∧ T ≤ 4 ∧ f + T ≤ ν 1013 5) ∧ (SL μ ν) ∧ (σ f = 0) ∧ (σ (ν 1013 5) = μ 20 6) ∧ (μ 20 7 = D ∧ ν 1000 45 = D ∧ 0 ≤ D ∧ D ≤ 3) ∧ ((ν 1000 44 = 0 ∧ ν 1013 5 = f + T ∧ μ 20 6 = T) ∨ (ν 1000 44 = 1 ∧ f + T < ν 1013 5)) ∧ (∀ l, f ≤ l → l < ν 1013 5 → ∃ u, LR b 60 1000 W (σ (l + 1)) u l Wn μ ν ∧ LQ 60 4 B u l (σ l) (σ (l + 1)) ν) ∧ (∀ i, 0 ≤ i → i < T → ν 1002 (60 + (f + i)) = 0 ∧ ν 1003 (60 + (f + i)) = i) ∧ (ctx (wP b 60 μ ν) D.toNat 3 0 (f + T) (ν 1013 5))
theorem OB.kk {b B W f T D : Int} {Wn σ : Int → Int} {μ ν : am_M} (h : OB b B W f T D Wn σ μ ν) : μ 20 11 = B - 1 := h.1
theorem OB.b1 {b B W f T D : Int} {Wn σ : Int → Int} {μ ν : am_M} (h : OB b B W f T D Wn σ μ ν) : 1 ≤ B := h.2.1
theorem OB.fl {b B W f T D : Int} {Wn σ : Int → Int} {μ ν : am_M} (h : OB b B W f T D Wn σ μ ν) : μ (b + 15) (B - 1) = f ∧ ν 1017 (3 + B) = f := h.2.2.1
theorem OB.cl {b B W f T D : Int} {Wn σ : Int → Int} {μ ν : am_M} (h : OB b B W f T D Wn σ μ ν) : μ (b + 16) (B - 1) = ν 1013 5 - f ∧ ν 1018 (3 + B) = ν 1013 5 - f := h.2.2.2.1
theorem OB.tk {b B W f T D : Int} {Wn σ : Int → Int} {μ ν : am_M} (h : OB b B W f T D Wn σ μ ν) : μ (b + 17) (B - 1) = T ∧ ν 1019 (3 + B) = T := h.2.2.2.2.1
theorem OB.f0 {b B W f T D : Int} {Wn σ : Int → Int} {μ ν : am_M} (h : OB b B W f T D Wn σ μ ν) : 0 ≤ f ∧ 0 ≤ T ∧ T ≤ 4 ∧ f + T ≤ ν 1013 5 := h.2.2.2.2.2.1
theorem OB.sl {b B W f T D : Int} {Wn σ : Int → Int} {μ ν : am_M} (h : OB b B W f T D Wn σ μ ν) : SL μ ν := h.2.2.2.2.2.2.1
theorem OB.s0 {b B W f T D : Int} {Wn σ : Int → Int} {μ ν : am_M} (h : OB b B W f T D Wn σ μ ν) : σ f = 0 := h.2.2.2.2.2.2.2.1
theorem OB.sc {b B W f T D : Int} {Wn σ : Int → Int} {μ ν : am_M} (h : OB b B W f T D Wn σ μ ν) : σ (ν 1013 5) = μ 20 6 := h.2.2.2.2.2.2.2.2.1
theorem OB.dp {b B W f T D : Int} {Wn σ : Int → Int} {μ ν : am_M} (h : OB b B W f T D Wn σ μ ν) : μ 20 7 = D ∧ ν 1000 45 = D ∧ 0 ≤ D ∧ D ≤ 3 := h.2.2.2.2.2.2.2.2.2.1
theorem OB.pt {b B W f T D : Int} {Wn σ : Int → Int} {μ ν : am_M} (h : OB b B W f T D Wn σ μ ν) : (ν 1000 44 = 0 ∧ ν 1013 5 = f + T ∧ μ 20 6 = T) ∨ (ν 1000 44 = 1 ∧ f + T < ν 1013 5) := h.2.2.2.2.2.2.2.2.2.2.1
theorem OB.ln {b B W f T D : Int} {Wn σ : Int → Int} {μ ν : am_M} (h : OB b B W f T D Wn σ μ ν) : ∀ l, f ≤ l → l < ν 1013 5 → ∃ u, LR b 60 1000 W (σ (l + 1)) u l Wn μ ν ∧ LQ 60 4 B u l (σ l) (σ (l + 1)) ν := h.2.2.2.2.2.2.2.2.2.2.2.1
theorem OB.ti {b B W f T D : Int} {Wn σ : Int → Int} {μ ν : am_M} (h : OB b B W f T D Wn σ μ ν) : ∀ i, 0 ≤ i → i < T → ν 1002 (60 + (f + i)) = 0 ∧ ν 1003 (60 + (f + i)) = i := h.2.2.2.2.2.2.2.2.2.2.2.2.1
theorem OB.cx {b B W f T D : Int} {Wn σ : Int → Int} {μ ν : am_M} (h : OB b B W f T D Wn σ μ ν) : ctx (wP b 60 μ ν) D.toNat 3 0 (f + T) (ν 1013 5) := h.2.2.2.2.2.2.2.2.2.2.2.2.2
theorem OB.mk {b B W f T D : Int} {Wn σ : Int → Int} {μ ν : am_M} (kk : μ 20 11 = B - 1) (b1 : 1 ≤ B) (fl : μ (b + 15) (B - 1) = f ∧ ν 1017 (3 + B) = f) (cl : μ (b + 16) (B - 1) = ν 1013 5 - f ∧ ν 1018 (3 + B) = ν 1013 5 - f) (tk : μ (b + 17) (B - 1) = T ∧ ν 1019 (3 + B) = T) (f0 : 0 ≤ f ∧ 0 ≤ T ∧ T ≤ 4 ∧ f + T ≤ ν 1013 5) (sl : SL μ ν) (s0 : σ f = 0) (sc : σ (ν 1013 5) = μ 20 6) (dp : μ 20 7 = D ∧ ν 1000 45 = D ∧ 0 ≤ D ∧ D ≤ 3) (pt : (ν 1000 44 = 0 ∧ ν 1013 5 = f + T ∧ μ 20 6 = T) ∨ (ν 1000 44 = 1 ∧ f + T < ν 1013 5)) (ln : ∀ l, f ≤ l → l < ν 1013 5 → ∃ u, LR b 60 1000 W (σ (l + 1)) u l Wn μ ν ∧ LQ 60 4 B u l (σ l) (σ (l + 1)) ν) (ti : ∀ i, 0 ≤ i → i < T → ν 1002 (60 + (f + i)) = 0 ∧ ν 1003 (60 + (f + i)) = i) (cx : ctx (wP b 60 μ ν) D.toNat 3 0 (f + T) (ν 1013 5)) : OB b B W f T D Wn σ μ ν := ⟨kk, b1, fl, cl, tk, f0, sl, s0, sc, dp, pt, ln, ti, cx⟩
theorem K_r {μ ν : am_M} (h : TR μ ν) : 0 ≤ μ 10 5 ∧ μ 10 5 ≤ 116 := by
  rw [h.kin]
  unfold kOf
  by_cases c0 : ν 1000 6 = 0
  · rw [if_pos c0]; omega
  rw [if_neg c0]
  by_cases c1 : ν 1000 6 = 1
  · rw [if_pos c1]
    have := kw_100 (ν 1000 7)
    omega
  rw [if_neg c1]
  by_cases c2 : ν 1000 6 = 2
  · rw [if_pos c2]; omega
  rw [if_neg c2]
  by_cases c3 : ν 1000 6 = 3
  · rw [if_pos c3]
    have := sSgn_r (h.sgn c3)
    omega
  rw [if_neg c3]; omega
/-- the class's cells of a line that is begun -/
def stM (b k B n : Int) (μ : am_M) : am_M := m_st (m_st (addM b k μ) 20 12 (μ (b + 1) 10)) (b + 16) (B - 1) n
theorem stM_f {b k B n : Int} {μ : am_M} : ∀ c i, ¬ ((b + 2 ≤ c ∧ c ≤ b + 10 ∧ i = μ (b + 1) 10) ∨ (c = b + 1 ∧ i = 10) ∨ (c = 20 ∧ i = 12) ∨ (c = b + 16 ∧ i = B - 1)) → stM b k B n μ c i = μ c i := by
  intro c i z
  unfold stM
  rw [m_st_d, if_neg (by omega), m_st_d, if_neg (by omega), addM_f c i (by omega)]
/-- the innermost if -/
theorem top_s {b B W f T D : Int} {Wn σ : Int → Int} {μ ν : am_M} (h : PB b B W Wn μ ν) (o : OB b B W f T D Wn σ μ ν) (hD : 1 ≤ D) : ∃ i0 e0, f + T ≤ i0 ∧ i0 < ν 1013 5 ∧ ν 1034 (D - 1) = 60 + i0 ∧ ((ν 1035 (D - 1) = 0 ∧ μ 22 (D - 1) = i0 ∧ μ (b + 2) i0 = 5) ∨ (ν 1035 (D - 1) = 1 ∧ μ 22 (D - 1) = e0 ∧ ν 1008 (60 + i0) = 60 + e0 ∧ i0 < e0 ∧ e0 < ν 1013 5 ∧ μ (b + 2) e0 = 6)) := by
  obtain ⟨d1, d2, d3, d4⟩ := o.dp
  have hf0 := o.f0
  have hx := o.cx
  have e : D.toNat = (D.toNat - 1) + 1 := by omega
  rw [e] at hx
  have hi := ctx_in _ _ _ _ _ hx
  have ej : (0 : Int) + ((D.toNat - 1 : Nat) : Int) = D - 1 := by omega
  rw [ej] at hi
  obtain ⟨a1, a2, a3, a4⟩ := hi
  have w5 : wP b 60 μ ν 5 (D - 1) = ν 1034 (D - 1) - 60 := rfl
  have w6 : wP b 60 μ ν 6 (D - 1) = ν 1035 (D - 1) := rfl
  have w4 : wP b 60 μ ν 4 (D - 1) = μ 22 (D - 1) := rfl
  have w0 : ∀ x, wP b 60 μ ν 0 x = ν 1002 (60 + x) := fun _ => rfl
  have w1 : ∀ x, wP b 60 μ ν 1 x = ν 1008 (60 + x) - 60 := fun _ => rfl
  have kd : ∀ x, 0 ≤ x → x < ν 1013 5 → μ (b + 2) x = ν 1002 (60 + x) := fun x p q => by
    obtain ⟨⟨S, u, -, hl⟩, -⟩ := h.al x p q
    exact hl.kd.1
  rw [w5, w0] at a3
  rw [w5] at a1 a2
  rw [w6, w4, w5, w1, w0] at a4
  have e60 : 60 + (ν 1034 (D - 1) - 60) = ν 1034 (D - 1) := by omega
  rw [e60] at a4 a3
  refine ⟨ν 1034 (D - 1) - 60, μ 22 (D - 1), a1, a2, by omega, ?_⟩
  rcases a4 with ⟨z1, z2⟩ | ⟨z1, z2, z3, z4, z5⟩
  · left
    refine ⟨z1, z2, ?_⟩
    rw [kd _ (by omega) a2, e60]; exact a3
  · right
    have e61 : 60 + (ν 1008 (ν 1034 (D - 1)) - 60) = ν 1008 (ν 1034 (D - 1)) := by omega
    rw [e61] at z5
    refine ⟨z1, rfl, by rw [e60]; omega, by omega, by omega, ?_⟩
    rw [kd _ (by omega) (by omega), z2, e61]; exact z5
/-- whether a line may stand -/
def stB (k D : Int) (ν : am_M) : Prop := (k = 0 → ν 1000 44 = 0) ∧ (k = 6 → 1 ≤ D ∧ ν 1035 (D - 1) = 0) ∧ (k = 7 → 1 ≤ D ∧ ν 1035 (D - 1) = 1) ∧ (k = 8 → D = 0)
theorem may_s {b B W f T D k : Int} {Wn σ : Int → Int} {μ ν : am_M} (hb : bOk b) (h : PB b B W Wn μ ν) (o : OB b B W f T D Wn σ μ ν) (hk : 0 ≤ k ∧ k ≤ 8) : ∃ r, Rd_mayStand k μ = some (r, μ) ∧ ((r = 0 ∧ ¬ stB k D ν) ∨ (r = 1 ∧ stB k D ν)) := by
  have hb' : b = 100 ∨ b = 200 := hb
  have hB := h.nw.b0
  have hcB := h.cB
  have hb1 := o.b1
  have hf0 := o.f0
  have hc6 := h.c6
  obtain ⟨d1, d2, d3, d4⟩ := o.dp
  unfold Rd_mayStand stB
  by_cases c0 : k = 0
  · subst c0
    rw [if_pos rfl, h.rd.rb, q_gd_s (bO0 hb), o.kk, bat16 hb, if_pos (by omega), q_bd_s, h.rd.rb, q_gd_s (bO0 hb), o.kk, bat17 hb, if_pos (by omega), q_bd_s, o.cl.1, o.tk.1]
    rcases o.pt with ⟨z1, z2, -⟩ | ⟨z1, z2⟩
    · rw [if_pos (by omega)]
      exact ⟨1, rfl, Or.inr ⟨rfl, fun _ => z1, fun z => by omega, fun z => by omega, fun z => by omega⟩⟩
    · rw [if_neg (by omega)]
      exact ⟨0, rfl, Or.inl ⟨rfl, fun z => by have := z.1 rfl; omega⟩⟩
  rw [if_neg c0]
  by_cases c6 : k = 6
  · subst c6
    rw [if_neg (by decide), if_neg (by decide), if_neg (by decide), if_neg (by decide), if_neg (by decide), if_pos rfl]
    by_cases cd : D ≤ 0
    · rw [d1, if_pos cd]
      exact ⟨0, rfl, Or.inl ⟨rfl, fun z => by have := z.2.1 rfl; omega⟩⟩
    · obtain ⟨i0, e0, y1, y2, y3, y4⟩ := top_s h o (by omega)
      have e2 : b + 1 + 1 = b + 2 := by omega
      rw [d1, if_neg cd, h.rd.rl, q_gd_s (bO2 hb), w32_i (x := D - 1) (by omega) (by omega), X_at_22, if_pos (by omega), q_bd_s, e2, bat2 hb]
      rcases y4 with ⟨z1, z2, z3⟩ | ⟨z1, z2, z3, z4, z5, z6⟩
      · rw [z2, if_pos (by omega), q_bd_s, z3, if_pos rfl]
        exact ⟨1, rfl, Or.inr ⟨rfl, fun z => by omega, fun _ => ⟨by omega, z1⟩, fun z => by omega, fun z => by omega⟩⟩
      · rw [z2, if_pos (by omega), q_bd_s, z6, if_neg (by decide)]
        exact ⟨0, rfl, Or.inl ⟨rfl, fun z => by have := z.2.1 rfl; omega⟩⟩
  by_cases c7 : k = 7
  · subst c7
    rw [if_neg (by decide), if_neg (by decide), if_neg (by decide), if_neg (by decide), if_neg (by decide), if_neg (by decide), if_pos rfl]
    by_cases cd : D ≤ 0
    · rw [d1, if_pos cd]
      exact ⟨0, rfl, Or.inl ⟨rfl, fun z => by have := z.2.2.1 rfl; omega⟩⟩
    · obtain ⟨i0, e0, y1, y2, y3, y4⟩ := top_s h o (by omega)
      have e2 : b + 1 + 1 = b + 2 := by omega
      rw [d1, if_neg cd, h.rd.rl, q_gd_s (bO2 hb), w32_i (x := D - 1) (by omega) (by omega), X_at_22, if_pos (by omega), q_bd_s, e2, bat2 hb]
      rcases y4 with ⟨z1, z2, z3⟩ | ⟨z1, z2, z3, z4, z5, z6⟩
      · rw [z2, if_pos (by omega), q_bd_s, z3, if_neg (by decide)]
        exact ⟨0, rfl, Or.inl ⟨rfl, fun z => by have := z.2.2.1 rfl; omega⟩⟩
      · rw [z2, if_pos (by omega), q_bd_s, z6, if_pos rfl]
        exact ⟨1, rfl, Or.inr ⟨rfl, fun z => by omega, fun z => by omega, fun _ => ⟨by omega, z1⟩, fun z => by omega⟩⟩
  by_cases c8 : k = 8
  · subst c8
    rw [if_neg (by decide), if_neg (by decide), if_neg (by decide), if_neg (by decide), if_neg (by decide), if_neg (by decide), if_neg (by decide), if_pos rfl, d1]
    by_cases cd : D = 0
    · rw [if_pos cd]
      exact ⟨1, rfl, Or.inr ⟨rfl, fun z => by omega, fun z => by omega, fun z => by omega, fun _ => cd⟩⟩
    · rw [if_neg cd]
      exact ⟨0, rfl, Or.inl ⟨rfl, fun z => cd (z.2.2.2 rfl)⟩⟩
  refine ⟨1, ?_, Or.inr ⟨rfl, fun z => by omega, fun z => by omega, fun z => by omega, fun z => by omega⟩⟩
  have hk5 : k = 1 ∨ k = 2 ∨ k = 3 ∨ k = 4 ∨ k = 5 := by omega
  rcases hk5 with z | z | z | z | z <;> (subst z; rfl)
/-- whether there is room for it -/
def tmB (k T D n : Int) : Prop := n = 60 ∨ (k = 0 ∧ T = 4) ∨ (k = 5 ∧ D = 3)
theorem many_s {b B W f T D k : Int} {Wn σ : Int → Int} {μ ν : am_M} (hb : bOk b) (h : PB b B W Wn μ ν) (o : OB b B W f T D Wn σ μ ν) : ∃ r, Rd_isTooMany k μ = some (r, μ) ∧ ((r = 1 ∧ tmB k T D (ν 1013 5)) ∨ (r = 0 ∧ ¬ tmB k T D (ν 1013 5))) := by
  have hB := h.nw.b0
  have hcB := h.cB
  have hb1 := o.b1
  have hf0 := o.f0
  have hc6 := h.c6
  obtain ⟨d1, d2, d3, d4⟩ := o.dp
  unfold Rd_isTooMany tmB
  have e34 : ¬ (k = 0 ∧ T = 4) → ν 1013 5 < 60 → ∃ r, Rd_isTooMany_B34 k μ = some (r, μ) ∧ ((r = 1 ∧ (ν 1013 5 = 60 ∨ (k = 0 ∧ T = 4) ∨ (k = 5 ∧ D = 3))) ∨ (r = 0 ∧ ¬ (ν 1013 5 = 60 ∨ (k = 0 ∧ T = 4) ∨ (k = 5 ∧ D = 3)))) := by
    intro y1 y2
    unfold Rd_isTooMany_B34
    by_cases c5 : k = 5
    · rw [if_pos c5, d1]
      by_cases cd : D < 3
      · rw [if_pos cd]; exact ⟨0, rfl, Or.inr ⟨rfl, by omega⟩⟩
      · rw [if_neg cd]; exact ⟨1, rfl, Or.inl ⟨rfl, by omega⟩⟩
    · rw [if_neg c5]; exact ⟨0, rfl, Or.inr ⟨rfl, by omega⟩⟩
  rw [h.rd.rl, q_gd_s (bO2 hb), h.cn]
  by_cases c60 : ν 1013 5 < 60
  · rw [if_pos c60]
    by_cases c0 : k = 0
    · rw [if_pos c0, h.rd.rb, q_gd_s (bO0 hb), o.kk, bat17 hb, if_pos (by omega), q_bd_s, o.tk.1]
      by_cases c4 : T < 4
      · rw [if_pos c4]; exact e34 (by omega) c60
      · rw [if_neg c4]; exact ⟨1, rfl, Or.inl ⟨rfl, by omega⟩⟩
    · rw [if_neg c0]; exact e34 (by omega) c60
  · rw [if_neg c60]; exact ⟨1, rfl, Or.inl ⟨rfl, by omega⟩⟩
/-- the reference's tests ahead of a line -/
theorem B134_s {k B D ln : Int} {ν : am_M} (h1 : stB k D ν) (h2 : ν 1000 45 = D) (h3 : 0 ≤ D ∧ D ≤ 3) : M_readsLine_B134 k (3 + B) ln 1 ν = (if ν 1013 5 = 60 ∨ (k = 5 ∧ D = 3) then M_readsLine_B182 ν else M_readsLine_B188 k (3 + B) ln ν) := by
  unfold M_readsLine_B134
  have e158 : M_readsLine_B158 k (3 + B) ln ν = (if ν 1013 5 = 60 ∨ (k = 5 ∧ D = 3) then M_readsLine_B182 ν else M_readsLine_B188 k (3 + B) ln ν) := by
    unfold M_readsLine_B158
    rw [q_ld_s (by decide) (by decide)]
    by_cases c : ν 1013 5 = 60
    · rw [if_pos c, if_pos (Or.inl c)]
    · rw [if_neg c]
      by_cases c5 : k = 5
      · rw [if_pos c5, h2]
        by_cases cd : D = 3
        · rw [if_pos cd, if_pos (Or.inr ⟨c5, cd⟩)]
        · rw [if_neg cd, if_neg (by omega)]
      · rw [if_neg c5, if_neg (by omega)]
  rw [if_neg (by decide)]
  by_cases c0 : k = 0
  · rw [if_pos c0, if_pos (h1.1 c0)]; exact e158
  · rw [if_neg c0]; exact e158
noncomputable def refSt (k v2 ln : Int) (ν : am_M) : am_O :=
    (if k = 6 then (if (ν 1000 45) ≤ 0 then (M_readsLine_B77 k v2 ln ν) else (q_ld 3 1035 (w32 ((ν 1000 45) - 1)) ν fun a7 => if a7 = 0 then (M_readsLine_B134 k v2 ln 1 ν) else (M_readsLine_B77 k v2 ln ν)))
    else (if k = 7 then (if (ν 1000 45) ≤ 0 then (M_readsLine_B112 k v2 ln ν) else (q_ld 3 1035 (w32 ((ν 1000 45) - 1)) ν fun a6 => if a6 = 0 then (M_readsLine_B112 k v2 ln ν) else (M_readsLine_B134 k v2 ln 1 ν)))
    else (if k = 8 then (if (ν 1000 45) = 0 then (M_readsLine_B129 k v2 ln ν) else (M_readsLine_B134 k v2 ln 0 ν)) else (M_readsLine_B129 k v2 ln ν))))
theorem B134_0 {k v2 ln : Int} {ν : am_M} : M_readsLine_B134 k v2 ln 0 ν = M_readsLine_B152 ν := by
  unfold M_readsLine_B134
  rw [if_pos rfl]
theorem refst_s {k B D ln : Int} {ν : am_M} (h2 : ν 1000 45 = D) (h3 : 0 ≤ D ∧ D ≤ 3) (h35 : 1 ≤ D → ν 1035 (D - 1) = 0 ∨ ν 1035 (D - 1) = 1) (h44 : ν 1000 44 = 0 ∨ ν 1000 44 = 1) :
    (stB k D ν → refSt k (3 + B) ln ν = (if ν 1013 5 = 60 ∨ (k = 5 ∧ D = 3) then M_readsLine_B182 ν else M_readsLine_B188 k (3 + B) ln ν)) ∧ (¬ stB k D ν → refSt k (3 + B) ln ν = M_readsLine_B152 ν) := by
  have yes : stB k D ν → M_readsLine_B134 k (3 + B) ln 1 ν = (if ν 1013 5 = 60 ∨ (k = 5 ∧ D = 3) then M_readsLine_B182 ν else M_readsLine_B188 k (3 + B) ln ν) := fun z => B134_s z h2 h3
  have b77 : M_readsLine_B77 k (3 + B) ln ν = M_readsLine_B152 ν := B134_0
  have b112 : M_readsLine_B112 k (3 + B) ln ν = M_readsLine_B152 ν := B134_0
  have b129 : M_readsLine_B129 k (3 + B) ln ν = M_readsLine_B134 k (3 + B) ln 1 ν := rfl
  unfold refSt
  rw [b77, b112, b129, h2, B134_0]
  by_cases c6 : k = 6
  · rw [if_pos c6]
    by_cases cd : D ≤ 0
    · rw [if_pos cd]
      exact ⟨fun z => by have := z.2.1 c6; omega, fun _ => rfl⟩
    · rw [if_neg cd, w32_i (x := D - 1) (by omega) (by omega), q_ld_s (by omega) (by omega)]
      rcases h35 (by omega) with z | z
      · rw [if_pos z]
        exact ⟨yes, fun y => absurd (⟨fun u => by omega, fun _ => ⟨by omega, z⟩, fun u => by omega, fun u => by omega⟩ : stB k D ν) y⟩
      · rw [if_neg (by omega)]
        exact ⟨fun y => by have := y.2.1 c6; omega, fun _ => rfl⟩
  rw [if_neg c6]
  by_cases c7 : k = 7
  · rw [if_pos c7]
    by_cases cd : D ≤ 0
    · rw [if_pos cd]
      exact ⟨fun z => by have := z.2.2.1 c7; omega, fun _ => rfl⟩
    · rw [if_neg cd, w32_i (x := D - 1) (by omega) (by omega), q_ld_s (by omega) (by omega)]
      rcases h35 (by omega) with z | z
      · rw [if_pos z]
        exact ⟨fun y => by have := y.2.2.1 c7; omega, fun _ => rfl⟩
      · rw [if_neg (by omega)]
        exact ⟨yes, fun y => absurd (⟨fun u => by omega, fun u => by omega, fun _ => ⟨by omega, z⟩, fun u => by omega⟩ : stB k D ν) y⟩
  rw [if_neg c7]
  by_cases c8 : k = 8
  · rw [if_pos c8]
    by_cases cd : D = 0
    · rw [if_pos cd]
      exact ⟨yes, fun y => absurd (⟨fun u => by omega, fun u => by omega, fun u => by omega, fun _ => cd⟩ : stB k D ν) y⟩
    · rw [if_neg cd]
      exact ⟨fun y => absurd (y.2.2.2 c8) cd, fun _ => rfl⟩
  rw [if_neg c8]
  refine ⟨yes, fun y => ?_⟩
  by_cases c0 : k = 0
  · subst c0
    rcases h44 with z | z
    · exact absurd (⟨fun _ => z, fun u => by omega, fun u => by omega, fun u => by omega⟩ : stB 0 D ν) y
    · unfold M_readsLine_B134
      rw [if_neg (by decide), if_pos rfl, if_neg (by omega)]
  · exact absurd (⟨fun u => by omega, fun u => by omega, fun u => by omega, fun u => by omega⟩ : stB k D ν) y
theorem readsLine_e {B k : Int} {ν : am_M} (hk : M_kindOfLine ν = some (k, ν)) (h0 : 0 ≤ k) (hop : ν 1000 43 = 1) (hB : ν 1013 4 = B) (hB4 : 0 ≤ B ∧ B ≤ 4) (hc : 0 ≤ ν 1013 5 ∧ ν 1013 5 ≤ 60) : M_readsLine ν = refSt k (3 + B) (if 60 + ν 1013 5 < 119 then 60 + ν 1013 5 else 119) ν := by
  unfold M_readsLine
  rw [hk, q_bd_s, if_neg (by omega), if_neg (by omega), q_ld_s (by decide) (by decide), q_ld_s (by decide) (by decide), hB, w32_i (x := 3 + B) (by omega) (by omega), w32_i (x := 60 + ν 1013 5) (by omega) (by omega), q_lt_d]
  rfl
set_option maxHeartbeats 4000000 in
theorem start_s {b B W f T D : Int} {Wn σ : Int → Int} {μ ν : am_M} (hb : bOk b) (h : PB b B W Wn μ ν) (o : OB b B W f T D Wn σ μ ν) (hop : ν 1000 43 = 1) :
    (∃ μ1 ν1, Rd_startLine μ = some (0, μ1) ∧ M_readsLine ν = some (0, ν1) ∧ FL μ1 ν1 ∧ FA b μ μ1 ∧ FN ν ν1) ∨
    (∃ k, Rd_startLine μ = (q_bd (Tp_advance (stM b k B (ν 1013 5 - f + 1) μ)) fun _ x => some (1, x)) ∧ 0 ≤ k ∧ k ≤ 8 ∧ μ 10 5 = 100 + k ∧ ν 1013 5 < 60 ∧ stB k D ν ∧ (k = 0 → T ≤ 3) ∧ (k = 5 → D ≤ 2) ∧
      M_readsLine ν = (if k = 0 then (q_bd (M_readsTake (3 + B) (60 + ν 1013 5) (preM k (60 + ν 1013 5) ν)) fun a4 μ5 => M_readsLine_B298 k (3 + B) a4 μ5) else (q_pfb 1000 44 1 (preM k (60 + ν 1013 5) ν) fun μ1 => q_bd (M_readsOther k (60 + ν 1013 5) μ1) fun a2 μ3 => M_readsLine_B298 k (3 + B) a2 μ3))) := by
  have hb' : b = 100 ∨ b = 200 := hb
  have hK := K_r h.tr
  have hB := h.nw.b0
  have hcB := h.cB
  have hc6 := h.c6
  have hb1 := o.b1
  have hf0 := o.f0
  obtain ⟨d1, d2, d3, d4⟩ := o.dp
  have fl : ∀ j : Int, 1 ≤ j ∧ j ≤ 5 → (q_bd (Rd_fail j μ) fun a1 μ2 => q_rb a1 (some (a1, μ2))) = some (0, m_st μ 20 10 (j + 16 * μ 10 3)) ∧ (q_bd (M_fails j ν) fun a1 μ2 => q_rb a1 (some (a1, μ2))) = some (0, m_st ν 1000 9 (j + 16 * μ 10 3)) ∧ FL (m_st μ 20 10 (j + 16 * μ 10 3)) (m_st ν 1000 9 (j + 16 * μ 10 3)) := by
    intro j hj
    obtain ⟨x1, x2, x3⟩ := fail_s (k := j) h.tr h.rd.rf hj
    rw [x1, x2, q_bd_s, q_bd_s, q_rb0, q_rb0]
    exact ⟨rfl, rfl, x3⟩
  obtain ⟨p1, p2, p3⟩ := fl 1 (by decide)
  obtain ⟨r1, r2, r3⟩ := fl 5 (by decide)
  have hko := kol_s h.tr
  unfold Rd_startLine
  rw [w32_i (x := μ 10 5 - 100) (by omega) (by omega)]
  have b29 : Rd_startLine_B29 μ = some (0, m_st μ 20 10 (1 + 16 * μ 10 3)) := p1
  have b152 : M_readsLine_B152 ν = some (0, m_st ν 1000 9 (1 + 16 * μ 10 3)) := p2
  have b182 : M_readsLine_B182 ν = some (0, m_st ν 1000 9 (5 + 16 * μ 10 3)) := r2
  by_cases c0 : 100 ≤ μ 10 5 ∧ μ 10 5 ≤ 108
  · rw [if_pos c0] at hko
    generalize hk : μ 10 5 - 100 = k at *
    rw [if_neg (by omega), if_pos (by omega), readsLine_e hko (by omega) hop hcB (by omega) hc6]
    obtain ⟨r, m1, m2⟩ := may_s (k := k) hb h o (by omega)
    have h35 : 1 ≤ D → ν 1035 (D - 1) = 0 ∨ ν 1035 (D - 1) = 1 := fun z => by
      obtain ⟨i0, e0, -, -, -, y⟩ := top_s h o z
      rcases y with ⟨y, -⟩ | ⟨y, -⟩
      · exact Or.inl y
      · exact Or.inr y
    have h44 : ν 1000 44 = 0 ∨ ν 1000 44 = 1 := by
      rcases o.pt with ⟨z, -⟩ | ⟨z, -⟩
      · exact Or.inl z
      · exact Or.inr z
    obtain ⟨s1, s2⟩ := refst_s (k := k) (B := B) (ln := if 60 + ν 1013 5 < 119 then 60 + ν 1013 5 else 119) d2 ⟨d3, d4⟩ h35 h44
    rw [m1, q_bd_s]
    rcases m2 with ⟨z1, z2⟩ | ⟨z1, z2⟩
    · subst z1
      left
      rw [if_pos rfl, s2 z2, b29, b152]
      exact ⟨_, _, rfl, rfl, p3, FA_fail, FN_fail⟩
    · subst z1
      rw [if_neg (by decide), s1 z2]
      obtain ⟨rr, n1, n2⟩ := many_s (k := k) hb h o
      rw [n1, q_bd_s]
      rcases n2 with ⟨z3, z4⟩ | ⟨z3, z4⟩
      · subst z3
        left
        rw [if_neg (by decide), r1]
        unfold tmB at z4
        by_cases c5 : ν 1013 5 = 60 ∨ (k = 5 ∧ D = 3)
        · rw [if_pos c5, b182]
          exact ⟨_, _, rfl, rfl, r3, FA_fail, FN_fail⟩
        · rw [if_neg c5, pre_s (by omega), if_pos (by omega)]
          have hT : T = 4 := by omega
          have hk0 : k = 0 := by omega
          have e60 : (if 60 + ν 1013 5 < 119 then 60 + ν 1013 5 else 119) = 60 + ν 1013 5 := by
            by_cases z : 60 + ν 1013 5 < 119
            · rw [if_pos z]
            · rw [if_neg z]; omega
          rw [e60]
          have g : ∀ c i, ¬ ((((1002 ≤ c ∧ c ≤ 1006) ∨ c = 1010 ∨ c = 1011) ∧ i = 60 + ν 1013 5) ∨ (c = 1007 ∧ 4 * (60 + ν 1013 5) ≤ i ∧ i < 4 * (60 + ν 1013 5) + 4)) → preM k (60 + ν 1013 5) ν c i = ν c i := preM_f
          have trp : TR μ (preM k (60 + ν 1013 5) ν) := h.tr.cong (fun _ _ _ => rfl) (fun c i z => g c i (by omega))
          obtain ⟨x1, x2, x3⟩ := fail_s (k := 5) trp h.rd.rf (by decide)
          unfold M_readsTake M_readsTake_B34
          rw [g _ _ (by omega), z2.1 hk0, if_pos rfl, q_ld_s (by omega) (by omega), g _ _ (by omega), o.tk.2, if_pos hT, x2, q_bd_s, q_rb0, q_bd_s]
          unfold M_readsLine_B298
          rw [if_pos rfl]
          have fnp : FN ν (preM k (60 + ν 1013 5) ν) := fun c i z => g c i (by omega)
          exact ⟨_, _, rfl, rfl, x3, FA_fail, fnp.tr FN_fail⟩
      · subst z3
        right
        unfold tmB at z4
        rw [if_pos rfl, if_neg (by omega)]
        have e60 : (if 60 + ν 1013 5 < 119 then 60 + ν 1013 5 else 119) = 60 + ν 1013 5 := by
          by_cases z : 60 + ν 1013 5 < 119
          · rw [if_pos z]
          · rw [if_neg z]; omega
        rw [e60, pre_s (by omega)]
        refine ⟨k, ?_, by omega, by omega, by omega, by omega, z2, fun _ => by omega, fun _ => by omega, rfl⟩
        have hcn := h.cn
        rw [h.rd.rl, q_gd_s (bO2 hb), add_s hb (by omega) (by omega), q_bd_s, q_pf_d]
        have g : ∀ c i, ¬ ((b + 2 ≤ c ∧ c ≤ b + 10 ∧ i = μ (b + 1) 10) ∨ (c = b + 1 ∧ i = 10)) → addM b k μ c i = μ c i := addM_f
        have g2 : ∀ c i, ¬ ((b + 2 ≤ c ∧ c ≤ b + 10 ∧ i = μ (b + 1) 10) ∨ (c = b + 1 ∧ i = 10) ∨ (c = 20 ∧ i = 12)) → m_st (addM b k μ) 20 12 (μ (b + 1) 10) c i = μ c i := fun c i z => by rw [m_st_d, if_neg (by omega), g c i (by omega)]
        have e4 : m_st (addM b k μ) 20 12 (μ (b + 1) 10) 20 4 = b := by rw [g2 _ _ (by omega)]; exact h.rd.rb
        have e11 : m_st (addM b k μ) 20 12 (μ (b + 1) 10) 20 11 = B - 1 := by rw [g2 _ _ (by omega)]; exact o.kk
        have e16 : m_st (addM b k μ) 20 12 (μ (b + 1) 10) (b + 16) (B - 1) = ν 1013 5 - f := by rw [g2 _ _ (by omega)]; exact o.cl.1
        rw [e4, q_gd_s (bO0 hb), e11, bat16 hb, if_pos (by omega), q_bd_s, e16, w32_i (x := ν 1013 5 - f + 1) (by omega) (by omega), bput16 hb, if_pos (by omega), q_bd_s]
        rfl
  · left
    rw [if_neg c0] at hko
    have e2 : M_readsLine ν = some (0, m_st ν 1000 9 (1 + 16 * μ 10 3)) := by
      unfold M_readsLine
      rw [hko, q_bd_s, if_pos (by decide)]
      exact p2
    rw [e2]
    by_cases c1 : μ 10 5 - 100 < 0
    · rw [if_pos c1, b29]
      exact ⟨_, _, rfl, rfl, p3, FA_fail, FN_fail⟩
    · rw [if_neg c1, if_neg (by omega), b29]
      exact ⟨_, _, rfl, rfl, p3, FA_fail, FN_fail⟩
