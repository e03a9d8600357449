theorem one_at {p0 v_sz v_at v_wr v_n : Int32} {f_sa f_ru : Nat → Int32} (hsz : i120 v_sz) (hat : i120 v_at) : i120 (g_Mg_one p0 v_sz v_at v_wr v_n f_sa f_ru).2.1 := by
  unfold g_Mg_one
  repeat' (first | with_reducible refine pt_i (fun t : Int32 × Int32 × Int32 × (Nat → Int32) => i120 t.2.1) (fun _ => ?_) (fun _ => ?_) | with_reducible refine pt_v (fun t : Int32 × Int32 × Int32 × (Nat → Int32) => i120 t.2.1) ?_)
  all_goals first | with_reducible exact hat | with_reducible exact number_at hsz hat | with_reducible exact lends_at hsz hat
def gl_rd0 : Nat → (Int32) → (Int32) → (Nat → Int32) → Int32 × (Nat → Int32)
  | 0, v_n, k, R => (k, R)
  | n + 1, v_n, k, R =>
    if 10 ≤ k then
      (k, R)
    else
      if 3 ≤ k then
        if k = 7 then
          gl_rd0 n v_n (k + 1) (upd R ((10 * v_n) + k).toNatClampNeg 7)
        else
          gl_rd0 n v_n (k + 1) (upd R ((10 * v_n) + k).toNatClampNeg 0)
      else
        gl_rd0 n v_n (k + 1) (upd R ((10 * v_n) + k).toNatClampNeg (-1))
def gl_rd1 : Nat → (Int32) → (Int32) → (Nat → Int32) → (Int32) → (Int32) → (Int32) → (Nat → Int32) → Nat × Int32 × Int32 × Int32 × (Nat → Int32)
  | 0, v_sz, v_n, f_sa, la, a, wr, R => (0, la, a, wr, R)
  | n + 1, v_sz, v_n, f_sa, la, a, wr, R =>
    if a < v_sz then
      if la ≤ 0 then
        if (g_Mg_step (g_Mg_word v_sz a f_sa)) ≤ la then
          (2, la, a, wr, R)
        else
          if 4 ≤ la then
            if la = 5 then
              if (g_Mg_step (g_Mg_word v_sz a f_sa)) = 10 then
                if (g_Mg_step (g_Mg_word v_sz a f_sa)) = 0 then
                  (2, la, a, wr, R)
                else
                  bv (g_Mg_pass v_sz a f_sa) (fun x_19 =>
                    bv (g_Mg_one (g_Mg_step (g_Mg_word v_sz a f_sa)) v_sz x_19 wr v_n f_sa R) (fun x_22 =>
                      if x_22.1 = 0 then
                        (3, la, x_22.2.1, x_22.2.2.1, x_22.2.2.2)
                      else
                        gl_rd1 n v_sz v_n f_sa (g_Mg_step (g_Mg_word v_sz a f_sa)) x_22.2.1 x_22.2.2.1 x_22.2.2.2))
              else
                (2, la, a, wr, R)
            else
              if la = 6 then
                if (g_Mg_step (g_Mg_word v_sz a f_sa)) = 10 then
                  if (g_Mg_step (g_Mg_word v_sz a f_sa)) = 0 then
                    (2, la, a, wr, R)
                  else
                    bv (g_Mg_pass v_sz a f_sa) (fun x_42 =>
                      bv (g_Mg_one (g_Mg_step (g_Mg_word v_sz a f_sa)) v_sz x_42 wr v_n f_sa R) (fun x_45 =>
                        if x_45.1 = 0 then
                          (3, la, x_45.2.1, x_45.2.2.1, x_45.2.2.2)
                        else
                          gl_rd1 n v_sz v_n f_sa (g_Mg_step (g_Mg_word v_sz a f_sa)) x_45.2.1 x_45.2.2.1 x_45.2.2.2))
                else
                  (2, la, a, wr, R)
              else
                if (g_Mg_step (g_Mg_word v_sz a f_sa)) ≤ 6 then
                  (2, la, a, wr, R)
                else
                  if (g_Mg_step (g_Mg_word v_sz a f_sa)) = 0 then
                    (2, la, a, wr, R)
                  else
                    bv (g_Mg_pass v_sz a f_sa) (fun x_31 =>
                      bv (g_Mg_one (g_Mg_step (g_Mg_word v_sz a f_sa)) v_sz x_31 wr v_n f_sa R) (fun x_34 =>
                        if x_34.1 = 0 then
                          (3, la, x_34.2.1, x_34.2.2.1, x_34.2.2.2)
                        else
                          gl_rd1 n v_sz v_n f_sa (g_Mg_step (g_Mg_word v_sz a f_sa)) x_34.2.1 x_34.2.2.1 x_34.2.2.2))
          else
            if 7 ≤ (g_Mg_step (g_Mg_word v_sz a f_sa)) then
              (2, la, a, wr, R)
            else
              if (g_Mg_step (g_Mg_word v_sz a f_sa)) = 0 then
                (2, la, a, wr, R)
              else
                bv (g_Mg_pass v_sz a f_sa) (fun x_53 =>
                  bv (g_Mg_one (g_Mg_step (g_Mg_word v_sz a f_sa)) v_sz x_53 wr v_n f_sa R) (fun x_56 =>
                    if x_56.1 = 0 then
                      (3, la, x_56.2.1, x_56.2.2.1, x_56.2.2.2)
                    else
                      gl_rd1 n v_sz v_n f_sa (g_Mg_step (g_Mg_word v_sz a f_sa)) x_56.2.1 x_56.2.2.1 x_56.2.2.2))
      else
        bv (g_Mg_space v_sz a wr f_sa) (fun x_60 =>
          if x_60.1 = 0 then
            (1, la, x_60.2.1, x_60.2.2, R)
          else
            if (g_Mg_step (g_Mg_word v_sz x_60.2.1 f_sa)) ≤ la then
              (2, la, x_60.2.1, x_60.2.2, R)
            else
              if 4 ≤ la then
                if la = 5 then
                  if (g_Mg_step (g_Mg_word v_sz x_60.2.1 f_sa)) = 10 then
                    if (g_Mg_step (g_Mg_word v_sz x_60.2.1 f_sa)) = 0 then
                      (2, la, x_60.2.1, x_60.2.2, R)
                    else
                      bv (g_Mg_pass v_sz x_60.2.1 f_sa) (fun x_77 =>
                        bv (g_Mg_one (g_Mg_step (g_Mg_word v_sz x_60.2.1 f_sa)) v_sz x_77 x_60.2.2 v_n f_sa R) (fun x_80 =>
                          if x_80.1 = 0 then
                            (3, la, x_80.2.1, x_80.2.2.1, x_80.2.2.2)
                          else
                            gl_rd1 n v_sz v_n f_sa (g_Mg_step (g_Mg_word v_sz x_60.2.1 f_sa)) x_80.2.1 x_80.2.2.1 x_80.2.2.2))
                  else
                    (2, la, x_60.2.1, x_60.2.2, R)
                else
                  if la = 6 then
                    if (g_Mg_step (g_Mg_word v_sz x_60.2.1 f_sa)) = 10 then
                      if (g_Mg_step (g_Mg_word v_sz x_60.2.1 f_sa)) = 0 then
                        (2, la, x_60.2.1, x_60.2.2, R)
                      else
                        bv (g_Mg_pass v_sz x_60.2.1 f_sa) (fun x_100 =>
                          bv (g_Mg_one (g_Mg_step (g_Mg_word v_sz x_60.2.1 f_sa)) v_sz x_100 x_60.2.2 v_n f_sa R) (fun x_103 =>
                            if x_103.1 = 0 then
                              (3, la, x_103.2.1, x_103.2.2.1, x_103.2.2.2)
                            else
                              gl_rd1 n v_sz v_n f_sa (g_Mg_step (g_Mg_word v_sz x_60.2.1 f_sa)) x_103.2.1 x_103.2.2.1 x_103.2.2.2))
                    else
                      (2, la, x_60.2.1, x_60.2.2, R)
                  else
                    if (g_Mg_step (g_Mg_word v_sz x_60.2.1 f_sa)) ≤ 6 then
                      (2, la, x_60.2.1, x_60.2.2, R)
                    else
                      if (g_Mg_step (g_Mg_word v_sz x_60.2.1 f_sa)) = 0 then
                        (2, la, x_60.2.1, x_60.2.2, R)
                      else
                        bv (g_Mg_pass v_sz x_60.2.1 f_sa) (fun x_89 =>
                          bv (g_Mg_one (g_Mg_step (g_Mg_word v_sz x_60.2.1 f_sa)) v_sz x_89 x_60.2.2 v_n f_sa R) (fun x_92 =>
                            if x_92.1 = 0 then
                              (3, la, x_92.2.1, x_92.2.2.1, x_92.2.2.2)
                            else
                              gl_rd1 n v_sz v_n f_sa (g_Mg_step (g_Mg_word v_sz x_60.2.1 f_sa)) x_92.2.1 x_92.2.2.1 x_92.2.2.2))
              else
                if 7 ≤ (g_Mg_step (g_Mg_word v_sz x_60.2.1 f_sa)) then
                  (2, la, x_60.2.1, x_60.2.2, R)
                else
                  if (g_Mg_step (g_Mg_word v_sz x_60.2.1 f_sa)) = 0 then
                    (2, la, x_60.2.1, x_60.2.2, R)
                  else
                    bv (g_Mg_pass v_sz x_60.2.1 f_sa) (fun x_111 =>
                      bv (g_Mg_one (g_Mg_step (g_Mg_word v_sz x_60.2.1 f_sa)) v_sz x_111 x_60.2.2 v_n f_sa R) (fun x_114 =>
                        if x_114.1 = 0 then
                          (3, la, x_114.2.1, x_114.2.2.1, x_114.2.2.2)
                        else
                          gl_rd1 n v_sz v_n f_sa (g_Mg_step (g_Mg_word v_sz x_60.2.1 f_sa)) x_114.2.1 x_114.2.2.1 x_114.2.2.2)))
    else
      if 4 ≤ la then
        (0, la, a, wr, R)
      else
        if la ≤ 0 then
          if (g_Mg_step (g_Mg_word v_sz a f_sa)) ≤ la then
            (2, la, a, wr, R)
          else
            if 4 ≤ la then
              if la = 5 then
                if (g_Mg_step (g_Mg_word v_sz a f_sa)) = 10 then
                  if (g_Mg_step (g_Mg_word v_sz a f_sa)) = 0 then
                    (2, la, a, wr, R)
                  else
                    bv (g_Mg_pass v_sz a f_sa) (fun x_133 =>
                      bv (g_Mg_one (g_Mg_step (g_Mg_word v_sz a f_sa)) v_sz x_133 wr v_n f_sa R) (fun x_136 =>
                        if x_136.1 = 0 then
                          (3, la, x_136.2.1, x_136.2.2.1, x_136.2.2.2)
                        else
                          gl_rd1 n v_sz v_n f_sa (g_Mg_step (g_Mg_word v_sz a f_sa)) x_136.2.1 x_136.2.2.1 x_136.2.2.2))
                else
                  (2, la, a, wr, R)
              else
                if la = 6 then
                  if (g_Mg_step (g_Mg_word v_sz a f_sa)) = 10 then
                    if (g_Mg_step (g_Mg_word v_sz a f_sa)) = 0 then
                      (2, la, a, wr, R)
                    else
                      bv (g_Mg_pass v_sz a f_sa) (fun x_156 =>
                        bv (g_Mg_one (g_Mg_step (g_Mg_word v_sz a f_sa)) v_sz x_156 wr v_n f_sa R) (fun x_159 =>
                          if x_159.1 = 0 then
                            (3, la, x_159.2.1, x_159.2.2.1, x_159.2.2.2)
                          else
                            gl_rd1 n v_sz v_n f_sa (g_Mg_step (g_Mg_word v_sz a f_sa)) x_159.2.1 x_159.2.2.1 x_159.2.2.2))
                  else
                    (2, la, a, wr, R)
                else
                  if (g_Mg_step (g_Mg_word v_sz a f_sa)) ≤ 6 then
                    (2, la, a, wr, R)
                  else
                    if (g_Mg_step (g_Mg_word v_sz a f_sa)) = 0 then
                      (2, la, a, wr, R)
                    else
                      bv (g_Mg_pass v_sz a f_sa) (fun x_145 =>
                        bv (g_Mg_one (g_Mg_step (g_Mg_word v_sz a f_sa)) v_sz x_145 wr v_n f_sa R) (fun x_148 =>
                          if x_148.1 = 0 then
                            (3, la, x_148.2.1, x_148.2.2.1, x_148.2.2.2)
                          else
                            gl_rd1 n v_sz v_n f_sa (g_Mg_step (g_Mg_word v_sz a f_sa)) x_148.2.1 x_148.2.2.1 x_148.2.2.2))
            else
              if 7 ≤ (g_Mg_step (g_Mg_word v_sz a f_sa)) then
                (2, la, a, wr, R)
              else
                if (g_Mg_step (g_Mg_word v_sz a f_sa)) = 0 then
                  (2, la, a, wr, R)
                else
                  bv (g_Mg_pass v_sz a f_sa) (fun x_167 =>
                    bv (g_Mg_one (g_Mg_step (g_Mg_word v_sz a f_sa)) v_sz x_167 wr v_n f_sa R) (fun x_170 =>
                      if x_170.1 = 0 then
                        (3, la, x_170.2.1, x_170.2.2.1, x_170.2.2.2)
                      else
                        gl_rd1 n v_sz v_n f_sa (g_Mg_step (g_Mg_word v_sz a f_sa)) x_170.2.1 x_170.2.2.1 x_170.2.2.2))
        else
          bv (g_Mg_space v_sz a wr f_sa) (fun x_174 =>
            if x_174.1 = 0 then
              (1, la, x_174.2.1, x_174.2.2, R)
            else
              if (g_Mg_step (g_Mg_word v_sz x_174.2.1 f_sa)) ≤ la then
                (2, la, x_174.2.1, x_174.2.2, R)
              else
                if 4 ≤ la then
                  if la = 5 then
                    if (g_Mg_step (g_Mg_word v_sz x_174.2.1 f_sa)) = 10 then
                      if (g_Mg_step (g_Mg_word v_sz x_174.2.1 f_sa)) = 0 then
                        (2, la, x_174.2.1, x_174.2.2, R)
                      else
                        bv (g_Mg_pass v_sz x_174.2.1 f_sa) (fun x_191 =>
                          bv (g_Mg_one (g_Mg_step (g_Mg_word v_sz x_174.2.1 f_sa)) v_sz x_191 x_174.2.2 v_n f_sa R) (fun x_194 =>
                            if x_194.1 = 0 then
                              (3, la, x_194.2.1, x_194.2.2.1, x_194.2.2.2)
                            else
                              gl_rd1 n v_sz v_n f_sa (g_Mg_step (g_Mg_word v_sz x_174.2.1 f_sa)) x_194.2.1 x_194.2.2.1 x_194.2.2.2))
                    else
                      (2, la, x_174.2.1, x_174.2.2, R)
                  else
                    if la = 6 then
                      if (g_Mg_step (g_Mg_word v_sz x_174.2.1 f_sa)) = 10 then
                        if (g_Mg_step (g_Mg_word v_sz x_174.2.1 f_sa)) = 0 then
                          (2, la, x_174.2.1, x_174.2.2, R)
                        else
                          bv (g_Mg_pass v_sz x_174.2.1 f_sa) (fun x_214 =>
                            bv (g_Mg_one (g_Mg_step (g_Mg_word v_sz x_174.2.1 f_sa)) v_sz x_214 x_174.2.2 v_n f_sa R) (fun x_217 =>
                              if x_217.1 = 0 then
                                (3, la, x_217.2.1, x_217.2.2.1, x_217.2.2.2)
                              else
                                gl_rd1 n v_sz v_n f_sa (g_Mg_step (g_Mg_word v_sz x_174.2.1 f_sa)) x_217.2.1 x_217.2.2.1 x_217.2.2.2))
                      else
                        (2, la, x_174.2.1, x_174.2.2, R)
                    else
                      if (g_Mg_step (g_Mg_word v_sz x_174.2.1 f_sa)) ≤ 6 then
                        (2, la, x_174.2.1, x_174.2.2, R)
                      else
                        if (g_Mg_step (g_Mg_word v_sz x_174.2.1 f_sa)) = 0 then
                          (2, la, x_174.2.1, x_174.2.2, R)
                        else
                          bv (g_Mg_pass v_sz x_174.2.1 f_sa) (fun x_203 =>
                            bv (g_Mg_one (g_Mg_step (g_Mg_word v_sz x_174.2.1 f_sa)) v_sz x_203 x_174.2.2 v_n f_sa R) (fun x_206 =>
                              if x_206.1 = 0 then
                                (3, la, x_206.2.1, x_206.2.2.1, x_206.2.2.2)
                              else
                                gl_rd1 n v_sz v_n f_sa (g_Mg_step (g_Mg_word v_sz x_174.2.1 f_sa)) x_206.2.1 x_206.2.2.1 x_206.2.2.2))
                else
                  if 7 ≤ (g_Mg_step (g_Mg_word v_sz x_174.2.1 f_sa)) then
                    (2, la, x_174.2.1, x_174.2.2, R)
                  else
                    if (g_Mg_step (g_Mg_word v_sz x_174.2.1 f_sa)) = 0 then
                      (2, la, x_174.2.1, x_174.2.2, R)
                    else
                      bv (g_Mg_pass v_sz x_174.2.1 f_sa) (fun x_225 =>
                        bv (g_Mg_one (g_Mg_step (g_Mg_word v_sz x_174.2.1 f_sa)) v_sz x_225 x_174.2.2 v_n f_sa R) (fun x_228 =>
                          if x_228.1 = 0 then
                            (3, la, x_228.2.1, x_228.2.2.1, x_228.2.2.2)
                          else
                            gl_rd1 n v_sz v_n f_sa (g_Mg_step (g_Mg_word v_sz x_174.2.1 f_sa)) x_228.2.1 x_228.2.2.1 x_228.2.2.2)))
def g_Mg_reads (v_sz : Int32) (v_wr : Int32) (v_n : Int32) (f_sa : Nat → Int32) (f_ru : Nat → Int32) : Int32 × Int32 × Int32 × (Nat → Int32) :=
  bv (gl_rd0 11 v_n 0 f_ru) (fun x_1 =>
    bv (gl_rd1 12 v_sz v_n f_sa 0 0 v_wr x_1.2) (fun x_2 =>
      if x_2.1 = 0 then
        (1, x_2.2.2.1, x_2.2.2.2.1, x_2.2.2.2.2)
      else
        if x_2.1 = 1 then
          (0, x_2.2.2.1, x_2.2.2.2.1, x_2.2.2.2.2)
        else
          if x_2.1 = 2 then
            (0, x_2.2.2.1, x_2.2.2.1, x_2.2.2.2.2)
          else
            (0, x_2.2.2.1, x_2.2.2.2.1, x_2.2.2.2.2)))
theorem nz_Mg_reads {v_sz : Int32} {v_wr : Int32} {v_n : Int32} {f_sa : Nat → Int32} {f_ru : Nat → Int32} : b01 (g_Mg_reads v_sz v_wr v_n f_sa f_ru).1 := by
  unfold g_Mg_reads
  repeat' (first | with_reducible refine b01_i (fun _ => ?_) (fun _ => ?_) | with_reducible refine b01_v ?_)
  all_goals first | with_reducible exact b01_0 | with_reducible exact b01_1 | with_reducible exact nz_Mg_one | with_reducible exact nz_Mg_space
set_option maxHeartbeats 4000000 in
set_option maxRecDepth 100000 in
theorem c_Mg_reads (l : Launch) (dC : Nat → ClassId) (dI : Nat → Nat → Nat) (adK adV : Nat → Nat) (a_m : Nat) (a_sa : Nat) (a_ru : Nat) (k_sa : ClassId) (k_ru : ClassId) (v_th : Int32) (v_sz : Int32) (v_at : Int32) (v_wr : Int32) (a_me : Nat) (a_le : Nat) (v_n : Int32) (a_cl : Nat) (a_te : Nat) (a_ki : Nat) (a_ty : Nat) (a_bl : Nat) (a_ex : Nat) (a_lo : Nat) (v_nl : Int32) (a_ho : Nat) (a_fi : Nat) (v_nf : Int32) (a_cz : Nat) (v_nc : Int32) (f_sa : Nat → Int32) (f_ru : Nat → Int32) (sz : Nat) (hsz : 0 ≤ v_sz.toInt ∧ v_sz.toInt ≤ 120) (hn : 0 ≤ v_n.toInt ∧ v_n.toInt ≤ 40) : Met l y_M_reads ws_M_reads ({ frames := 5, cells := 0, slots := 0, locals := 107 }) (va_Pc [.ref a_m] (fun U => U.heap.size = sz ∧ zz adK adV (va_A [(a_m, .inr (5, [.int v_th, .ref a_sa, .int v_sz, .int v_at, .int v_wr, .ref a_ru, .ref a_me, .ref a_le, .int v_n, .ref a_cl, .ref a_te, .ref a_ki, .ref a_ty, .ref a_bl, .ref a_ex, .ref a_lo, .int v_nl, .ref a_ho, .ref a_fi, .int v_nf, .ref a_cz, .int v_nc])), (a_sa, .inl (k_sa, 120, .inl f_sa)), (a_ru, .inl (k_ru, 410, .inl f_ru))] sz) U ∧ va_P (dC, dI) vwCl [(a_m, .inr (5, [.int v_th, .ref a_sa, .int v_sz, .int v_at, .int v_wr, .ref a_ru, .ref a_me, .ref a_le, .int v_n, .ref a_cl, .ref a_te, .ref a_ki, .ref a_ty, .ref a_bl, .ref a_ex, .ref a_lo, .int v_nl, .ref a_ho, .ref a_fi, .int v_nf, .ref a_cz, .int v_nc])), (a_sa, .inl (k_sa, 120, .inl f_sa)), (a_ru, .inl (k_ru, 410, .inl f_ru))] U.heap ∧ va_K (dC, dI) vwCl [(k_sa, .byte), (k_ru, .int)] U ∧ va_D (fun _ => True) [(a_m, .inr (5, [.int v_th, .ref a_sa, .int v_sz, .int v_at, .int v_wr, .ref a_ru, .ref a_me, .ref a_le, .int v_n, .ref a_cl, .ref a_te, .ref a_ki, .ref a_ty, .ref a_bl, .ref a_ex, .ref a_lo, .int v_nl, .ref a_ho, .ref a_fi, .int v_nf, .ref a_cz, .int v_nc])), (a_sa, .inl (k_sa, 120, .inl f_sa)), (a_ru, .inl (k_ru, 410, .inl f_ru))])) (va_Qi (fun (r : Int32) (_ : Unit) => r = (g_Mg_reads v_sz v_wr v_n f_sa f_ru).1) (fun (_ : Unit) (t : State) => va_P (dC, dI) vwCl [(a_m, .inr (5, [.int v_th, .ref a_sa, .int v_sz, .int ((g_Mg_reads v_sz v_wr v_n f_sa f_ru).2.1), .int ((g_Mg_reads v_sz v_wr v_n f_sa f_ru).2.2.1), .ref a_ru, .ref a_me, .ref a_le, .int v_n, .ref a_cl, .ref a_te, .ref a_ki, .ref a_ty, .ref a_bl, .ref a_ex, .ref a_lo, .int v_nl, .ref a_ho, .ref a_fi, .int v_nf, .ref a_cz, .int v_nc])), (a_sa, .inl (k_sa, 120, .inl f_sa)), (a_ru, .inl (k_ru, 410, .inl ((g_Mg_reads v_sz v_wr v_n f_sa f_ru).2.2.2)))] t.heap ∧ va_K (dC, dI) vwCl [(k_sa, .byte), (k_ru, .int)] t ∧ va_D (va_A [(a_m, .inr (5, [.int v_th, .ref a_sa, .int v_sz, .int v_at, .int v_wr, .ref a_ru, .ref a_me, .ref a_le, .int v_n, .ref a_cl, .ref a_te, .ref a_ki, .ref a_ty, .ref a_bl, .ref a_ex, .ref a_lo, .int v_nl, .ref a_ho, .ref a_fi, .int v_nf, .ref a_cz, .int v_nc])), (a_sa, .inl (k_sa, 120, .inl f_sa)), (a_ru, .inl (k_ru, 410, .inl f_ru))] sz) [(a_m, .inr (5, [.int v_th, .ref a_sa, .int v_sz, .int ((g_Mg_reads v_sz v_wr v_n f_sa f_ru).2.1), .int ((g_Mg_reads v_sz v_wr v_n f_sa f_ru).2.2.1), .ref a_ru, .ref a_me, .ref a_le, .int v_n, .ref a_cl, .ref a_te, .ref a_ki, .ref a_ty, .ref a_bl, .ref a_ex, .ref a_lo, .int v_nl, .ref a_ho, .ref a_fi, .int v_nf, .ref a_cz, .int v_nc])), (a_sa, .inl (k_sa, 120, .inl f_sa)), (a_ru, .inl (k_ru, 410, .inl ((g_Mg_reads v_sz v_wr v_n f_sa f_ru).2.2.2)))]) (va_A [(a_m, .inr (5, [.int v_th, .ref a_sa, .int v_sz, .int v_at, .int v_wr, .ref a_ru, .ref a_me, .ref a_le, .int v_n, .ref a_cl, .ref a_te, .ref a_ki, .ref a_ty, .ref a_bl, .ref a_ex, .ref a_lo, .int v_nl, .ref a_ho, .ref a_fi, .int v_nf, .ref a_cz, .int v_nc])), (a_sa, .inl (k_sa, 120, .inl f_sa)), (a_ru, .inl (k_ru, 410, .inl f_ru))] sz)) 0 0 (va_A [(a_m, .inr (5, [.int v_th, .ref a_sa, .int v_sz, .int v_at, .int v_wr, .ref a_ru, .ref a_me, .ref a_le, .int v_n, .ref a_cl, .ref a_te, .ref a_ki, .ref a_ty, .ref a_bl, .ref a_ex, .ref a_lo, .int v_nl, .ref a_ho, .ref a_fi, .int v_nf, .ref a_cz, .int v_nc])), (a_sa, .inl (k_sa, 120, .inl f_sa)), (a_ru, .inl (k_ru, 410, .inl f_ru))] sz) := by
  refine Met.ofW (cc := c_M_reads) (maxL := 4) (ret := (some .boolean)) (by decide) rfl ?_
  intro p e s m args below meth c s₁ B hml hv
  obtain ⟨rfl, hsz, hZ, hP, hK, hD0⟩ := hv
  have hx := B.exec
  have hb := B.bytes
  have hr := B.returns
  have hts0 := atoms_spec (ws := ws_M_reads) B.pre
  have hts : ∀ w ∈ TT, w.before _ s = true := fun w h => hts0 w (List.mem_cons_of_mem _ h)
  have hown : s.vm.findClass "LoanRulesModel" = some m.cls := findClass_of_methodNamed B.named
  have hlocks := B.notSynchronized
  subst hsz
  have hD := hD0.self (sz := s.heap.size)
  generalize hAe : va_A [(a_m, .inr (5, [.int v_th, .ref a_sa, .int v_sz, .int v_at, .int v_wr, .ref a_ru, .ref a_me, .ref a_le, .int v_n, .ref a_cl, .ref a_te, .ref a_ki, .ref a_ty, .ref a_bl, .ref a_ex, .ref a_lo, .int v_nl, .ref a_ho, .ref a_fi, .int v_nf, .ref a_cz, .int v_nc])), (a_sa, .inl (k_sa, 120, .inl f_sa)), (a_ru, .inl (k_ru, 410, .inl f_ru))] s.heap.size = A at hD hZ ⊢
  have hA : ∀ q : Nat, s.heap.size ≤ q → A q := fun q h => by rw [← hAe]; exact Or.inr h
  clear hAe hD0
  have hS : va_S A s.heap s.heap [] := va_S.rf
  replace hP : va_P (dC, dI) vwCl [(a_m, .inr (5, [.int v_th, .ref a_sa, .int v_sz, .int v_at, .int v_wr, .ref a_ru, .ref a_me, .ref a_le, .int v_n, .ref a_cl, .ref a_te, .ref a_ki, .ref a_ty, .ref a_bl, .ref a_ex, .ref a_lo, .int v_nl, .ref a_ho, .ref a_fi, .int v_nf, .ref a_cz, .int v_nc])), (a_sa, .inl (k_sa, 120, .inl f_sa)), (a_ru, .inl (k_ru, 410, .inl f_ru))] s.heap := hP
  have hl := lv_entry ([.ref a_m]) (n := 4) (Nat.le_of_ble_eq_true rfl)
  rw [lg_entry_eq]
  generalize (lg_sl ([.ref a_m]) ++ List.replicate (4 - (lg_sl ([.ref a_m])).length) Slot.unset).toArray = ls at hl ⊢
  replace hl : lv_has ls 4 [(0, .ref a_m)] := hl
  obtain ⟨z, hz⟩ : ∃ z, z = g_Mg_reads v_sz v_wr v_n f_sa f_ru := ⟨_, rfl⟩
  have hE := hz
  rw [g_Mg_reads] at hE
  refine lv_iconst (v := 0) hx hb d_M_reads_0 (by decide) ?_
  refine lv_istore_n (lv' := [(1, .int 0), (0, .ref a_m)]) hx hb d_M_reads_1 rfl hl (by decide) rfl (fun ls hl => ?_)
  obtain ⟨H, hHe⟩ : ∃ H, H = s.heap := ⟨_, rfl⟩
  obtain ⟨locs, hLe⟩ : ∃ locs : List Loc, locs = [] := ⟨_, rfl⟩
  replace hP : va_P (dC, dI) vwCl [(a_m, .inr (5, [.int v_th, .ref a_sa, .int v_sz, .int v_at, .int v_wr, .ref a_ru, .ref a_me, .ref a_le, .int v_n, .ref a_cl, .ref a_te, .ref a_ki, .ref a_ty, .ref a_bl, .ref a_ex, .ref a_lo, .int v_nl, .ref a_ho, .ref a_fi, .int v_nf, .ref a_cz, .int v_nc])), (a_sa, .inl (k_sa, 120, .inl f_sa)), (a_ru, .inl (k_ru, 410, .inl f_ru))] H := by rw [hHe]; exact hP
  replace hS : va_S A s.heap H locs := by rw [hHe, hLe]; exact hS
  refine fl_gen hHe hLe ?_
  clear hHe hLe
  generalize hg_x_1 : gl_rd0 11 v_n 0 f_ru = x_1 at hE
  rw [bv_eq] at hE
  obtain ⟨k, e_k⟩ : ∃ q9 : Int32, q9 = 0 := ⟨_, rfl⟩
  obtain ⟨R, e_R⟩ : ∃ q9 : Nat → Int32, q9 = f_ru := ⟨_, rfl⟩
  obtain ⟨n, e_n⟩ : ∃ q9 : Nat, q9 = 11 := ⟨_, rfl⟩
  have hAll : va_P (dC, dI) vwCl [(a_m, .inr (5, [.int v_th, .ref a_sa, .int v_sz, .int v_at, .int v_wr, .ref a_ru, .ref a_me, .ref a_le, .int v_n, .ref a_cl, .ref a_te, .ref a_ki, .ref a_ty, .ref a_bl, .ref a_ex, .ref a_lo, .int v_nl, .ref a_ho, .ref a_fi, .int v_nf, .ref a_cz, .int v_nc])), (a_sa, .inl (k_sa, 120, .inl f_sa)), (a_ru, .inl (k_ru, 410, .inl R))] H ∧ va_D A [(a_m, .inr (5, [.int v_th, .ref a_sa, .int v_sz, .int v_at, .int v_wr, .ref a_ru, .ref a_me, .ref a_le, .int v_n, .ref a_cl, .ref a_te, .ref a_ki, .ref a_ty, .ref a_bl, .ref a_ex, .ref a_lo, .int v_nl, .ref a_ho, .ref a_fi, .int v_nf, .ref a_cz, .int v_nc])), (a_sa, .inl (k_sa, 120, .inl f_sa)), (a_ru, .inl (k_ru, 410, .inl R))] ∧ va_S A s.heap H locs ∧ lv_has ls 4 [(1, .int k), (0, .ref a_m)] ∧ (0 ≤ k.toInt ∧ k.toInt ≤ 10) ∧ 11 - k.toInt.toNat ≤ n ∧ gl_rd0 n v_n k R = x_1 := by
    subst e_k e_R e_n
    exact ⟨hP, hD, hS, hl, by decide, by decide, hg_x_1⟩
  clear hP hl hD hS e_k e_R e_n hg_x_1
  induction n generalizing k R H locs ls with
  | zero =>
    obtain ⟨hP, hD, hS, hl, hk, hm_rd0, hg_rd0⟩ := hAll
    exfalso; omega
  | succ n ih_rd0 =>
    obtain ⟨hP, hD, hS, hl, hk, hm_rd0, hg_rd0⟩ := hAll
    rw [gl_rd0] at hg_rd0
    refine lv_iload_n hx hb d_M_reads_2 rfl (lv_at hl 0 rfl) ?_
    refine lv_bipush (v := 10) hx hb d_M_reads_3 (by decide) ?_
    refine lv_icmp_ge (tgt := 49) hx hb d_M_reads_5 (by decide) (fun c_2 => ?_) (fun c_2 => ?_)
    · rw [if_pos c_2] at hg_rd0
      subst hg_rd0
      dsimp only at hE
      refine lv_aload_n hx hb d_M_reads_49 rfl (lv_at hl 1 rfl) ?_
      refine lv_iconst (v := 0) hx hb d_M_reads_50 (by decide) ?_
      refine va_put (D := (dC, dI)) (ci := 5) (v := .int 0) (ty := .int) (C := "LoanRulesModel") (T := Fz_M) (N := 22) hx hb hts it_M tz_M tz_M_ok nz_M hown hK hP hD hS 0 rfl rfl 3 (by decide) (hts _ tw_604) (fun _ h9 => h9) rfl (by decide +kernel) rfl rfl (Nat.le_of_ble_eq_true rfl) d_M_reads_51 (fun H locs hP hD hS => ?_)
      replace hP : va_P (dC, dI) vwCl [(a_m, .inr (5, [.int v_th, .ref a_sa, .int v_sz, .int 0, .int v_wr, .ref a_ru, .ref a_me, .ref a_le, .int v_n, .ref a_cl, .ref a_te, .ref a_ki, .ref a_ty, .ref a_bl, .ref a_ex, .ref a_lo, .int v_nl, .ref a_ho, .ref a_fi, .int v_nf, .ref a_cz, .int v_nc])), (a_sa, .inl (k_sa, 120, .inl f_sa)), (a_ru, .inl (k_ru, 410, .inl R))] H := hP
      replace hD : va_D A [(a_m, .inr (5, [.int v_th, .ref a_sa, .int v_sz, .int 0, .int v_wr, .ref a_ru, .ref a_me, .ref a_le, .int v_n, .ref a_cl, .ref a_te, .ref a_ki, .ref a_ty, .ref a_bl, .ref a_ex, .ref a_lo, .int v_nl, .ref a_ho, .ref a_fi, .int v_nf, .ref a_cz, .int v_nc])), (a_sa, .inl (k_sa, 120, .inl f_sa)), (a_ru, .inl (k_ru, 410, .inl R))] := hD
      refine lv_iconst (v := 0) hx hb d_M_reads_54 (by decide) ?_
      refine lv_istore_n (lv' := [(1, .int 0), (0, .ref a_m)]) hx hb d_M_reads_55 rfl hl (by decide) rfl (fun ls hl => ?_)
      generalize hg_x_3 : gl_rd1 12 v_sz v_n f_sa 0 0 v_wr R = x_3 at hE
      rw [bv_eq] at hE
      obtain ⟨la, e_la⟩ : ∃ q9 : Int32, q9 = 0 := ⟨_, rfl⟩
      obtain ⟨a, e_a⟩ : ∃ q9 : Int32, q9 = 0 := ⟨_, rfl⟩
      obtain ⟨wr, e_wr⟩ : ∃ q9 : Int32, q9 = v_wr := ⟨_, rfl⟩
      obtain ⟨R, e_R⟩ : ∃ q9 : Nat → Int32, q9 = R := ⟨_, rfl⟩
      obtain ⟨n, e_n⟩ : ∃ q9 : Nat, q9 = 12 := ⟨_, rfl⟩
      have hAll : va_P (dC, dI) vwCl [(a_m, .inr (5, [.int v_th, .ref a_sa, .int v_sz, .int a, .int wr, .ref a_ru, .ref a_me, .ref a_le, .int v_n, .ref a_cl, .ref a_te, .ref a_ki, .ref a_ty, .ref a_bl, .ref a_ex, .ref a_lo, .int v_nl, .ref a_ho, .ref a_fi, .int v_nf, .ref a_cz, .int v_nc])), (a_sa, .inl (k_sa, 120, .inl f_sa)), (a_ru, .inl (k_ru, 410, .inl R))] H ∧ va_D A [(a_m, .inr (5, [.int v_th, .ref a_sa, .int v_sz, .int a, .int wr, .ref a_ru, .ref a_me, .ref a_le, .int v_n, .ref a_cl, .ref a_te, .ref a_ki, .ref a_ty, .ref a_bl, .ref a_ex, .ref a_lo, .int v_nl, .ref a_ho, .ref a_fi, .int v_nf, .ref a_cz, .int v_nc])), (a_sa, .inl (k_sa, 120, .inl f_sa)), (a_ru, .inl (k_ru, 410, .inl R))] ∧ va_S A s.heap H locs ∧ lv_has ls 4 [(1, .int la), (0, .ref a_m)] ∧ (0 ≤ a.toInt ∧ a.toInt ≤ 120) ∧ (0 ≤ la.toInt ∧ la.toInt ≤ 10) ∧ 11 - la.toInt.toNat ≤ n ∧ gl_rd1 n v_sz v_n f_sa la a wr R = x_3 := by
        subst e_la e_a e_wr e_R e_n
        exact ⟨hP, hD, hS, hl, by decide, by decide, by decide, hg_x_3⟩
      clear hP hl hD hS e_la e_a e_wr e_R e_n hg_x_3
      induction n generalizing la a wr R H locs ls with
      | zero =>
        obtain ⟨hP, hD, hS, hl, ha, hla, hm_rd1, hg_rd1⟩ := hAll
        exfalso; omega
      | succ n ih_rd1 =>
        obtain ⟨hP, hD, hS, hl, ha, hla, hm_rd1, hg_rd1⟩ := hAll
        rw [gl_rd1] at hg_rd1
        refine lv_aload_n hx hb d_M_reads_56 rfl (lv_at hl 1 rfl) ?_
        refine va_get (D := (dC, dI)) (ci := 5) (v := .int a) (C := "LoanRulesModel") (T := Fz_M) (N := 22) hx hb hts it_M hown hK hP 0 rfl rfl 3 (by decide) (hts _ tw_604) (fun _ h9 => h9) rfl d_M_reads_57 ?_
        refine lv_aload_n hx hb d_M_reads_60 rfl (lv_at hl 1 rfl) ?_
        refine va_get (D := (dC, dI)) (ci := 5) (v := .int v_sz) (C := "LoanRulesModel") (T := Fz_M) (N := 22) hx hb hts it_M hown hK hP 0 rfl rfl 2 (by decide) (hts _ tw_603) (fun _ h9 => h9) rfl d_M_reads_61 ?_
        refine lv_icmp_lt (tgt := 72) hx hb d_M_reads_64 (by decide) (fun c_4 => ?_) (fun c_4 => ?_)
        · rw [if_pos c_4] at hg_rd1
          refine lv_iload_n hx hb d_M_reads_72 rfl (lv_at hl 0 rfl) ?_
          refine lv_if_le (tgt := 85) hx hb d_M_reads_73 (by decide) (fun c_5 => ?_) (fun c_5 => ?_)
          · rw [if_pos c_5] at hg_rd1
            refine lv_aload_n hx hb d_M_reads_85 rfl (lv_at hl 1 rfl) ?_
            have hPc := hP.sub (ws' := [(a_m, .inr (5, [.int v_th, .ref a_sa, .int v_sz, .int a, .int wr, .ref a_ru, .ref a_me, .ref a_le, .int v_n, .ref a_cl, .ref a_te, .ref a_ki, .ref a_ty, .ref a_bl, .ref a_ex, .ref a_lo, .int v_nl, .ref a_ho, .ref a_fi, .int v_nf, .ref a_cz, .int v_nc])), (a_sa, .inl (k_sa, 120, .inl f_sa))]) [0, 1] rfl
            have hKc := hK.sub (tys' := [(k_sa, .byte)]) [0] rfl
            refine vp_callSl (va_Run.run (va_runV (As := []) (rest := []) ⟨hx, hb, hml, hown, hts⟩ (c_Mg_word l dC dI adK adV (a_m := a_m) (v_th := v_th) (a_sa := a_sa) (v_sz := v_sz) (v_at := a) (v_wr := wr) (a_ru := a_ru) (a_me := a_me) (a_le := a_le) (v_n := v_n) (a_cl := a_cl) (a_te := a_te) (a_ki := a_ki) (a_ty := a_ty) (a_bl := a_bl) (a_ex := a_ex) (a_lo := a_lo) (v_nl := v_nl) (a_ho := a_ho) (a_fi := a_fi) (v_nf := v_nf) (a_cz := a_cz) (v_nc := v_nc) (k_sa := k_sa) (f_sa := f_sa) hsz ha) (cwV 0 hts (gV tw_692 tw_694 tw_29 tw_46 tw_695) rfl rfl rfl (by decide +kernel) ⟨(Nat.le_of_ble_eq_true rfl), (Nat.le_of_ble_eq_true rfl)⟩) ⟨fun a U g mk q => by obtain ⟨q0, qZ, qP, qK⟩ := q; exact ⟨q0, zz_call qZ, qP, va_K.moved (u := U) (U := U.calling g mk a) (Vm.Alike.refl U.vm) qK⟩, va_recv hKc hPc (ci := 5) (q0 := 0) rfl rfl, fun U hU hW => ⟨rfl, zz_ro hS hU hW hZ, by rw [hU]; exact hPc, va_K.moved hW.alike hKc⟩⟩ rfl rfl hl.1 rfl (lv_room (Nat.le_of_ble_eq_true rfl)) d_M_reads_86 ⟨(Nat.le_of_ble_eq_true rfl), (Nat.le_of_ble_eq_true rfl)⟩)) (fun r_6 hw_7 => ?_)
            clear hPc hKc
            subst hw_7
            have hPc := hP.sub (ws' := []) [] rfl
            have hKc := hK.sub (tys' := []) [] rfl
            refine vp_callSi (va_Run.run (va_runS (As := [.long (g_Mg_word v_sz a f_sa)]) (rest := []) ⟨hx, hb, hml, hown, hts⟩ (c_Mg_step l dC dI adK adV (p0 := g_Mg_word v_sz a f_sa)) (va_cwS 1 hts (gS tw_699 tw_700 tw_46 tw_701) rfl rfl rfl (by decide +kernel) ⟨(Nat.le_of_ble_eq_true rfl), (Nat.le_of_ble_eq_true rfl)⟩) ⟨fun a U g mk q => by obtain ⟨q0, qZ, qP, qK⟩ := q; exact ⟨q0, zz_call qZ, qP, va_K.moved (u := U) (U := U.calling g mk a) (Vm.Alike.refl U.vm) qK⟩, fun U hU hW => ⟨rfl, zz_ro hS hU hW hZ, by rw [hU]; exact hPc, va_K.moved hW.alike hKc⟩⟩ rfl rfl hl.1 rfl (lv_room (Nat.le_of_ble_eq_true rfl)) d_M_reads_89 ⟨(Nat.le_of_ble_eq_true rfl), (Nat.le_of_ble_eq_true rfl)⟩)) (fun r_8 hw_9 => ?_)
            clear hPc hKc
            subst hw_9
            refine lv_istore_n (lv' := [(2, .int (g_Mg_step (g_Mg_word v_sz a f_sa))), (1, .int la), (0, .ref a_m)]) hx hb d_M_reads_92 rfl hl (by decide) rfl (fun ls hl => ?_)
            refine lv_iload_n hx hb d_M_reads_93 rfl (lv_at hl 0 rfl) ?_
            refine lv_iload_n hx hb d_M_reads_94 rfl (lv_at hl 1 rfl) ?_
            refine lv_icmp_le (tgt := 142) hx hb d_M_reads_95 (by decide) (fun c_10 => ?_) (fun c_10 => ?_)
            · rw [if_pos c_10] at hg_rd1
              refine lv_iconst (v := 0) hx hb d_M_reads_142 (by decide) ?_
              refine lv_istore_n (lv' := [(3, .int 0), (2, .int (g_Mg_step (g_Mg_word v_sz a f_sa))), (1, .int la), (0, .ref a_m)]) hx hb d_M_reads_143 rfl hl (by decide) rfl (fun ls hl => ?_)
              refine lv_iload_n hx hb d_M_reads_144 rfl (lv_at hl 1 rfl) ?_
              refine lv_if_eq (tgt := 152) hx hb d_M_reads_145 (by decide) (fun c_11 => ?_) (fun c_11 => ?_)
              · subst hg_rd1
                dsimp only at hE
                rw [if_neg (by decide)] at hE
                rw [if_neg (by decide)] at hE
                rw [if_pos rfl] at hE
                refine lv_aload_n hx hb d_M_reads_152 rfl (lv_at hl 3 rfl) ?_
                refine lv_aload_n hx hb d_M_reads_153 rfl (lv_at hl 3 rfl) ?_
                refine va_get (D := (dC, dI)) (ci := 5) (v := .int a) (C := "LoanRulesModel") (T := Fz_M) (N := 22) hx hb hts it_M hown hK hP 0 rfl rfl 3 (by decide) (hts _ tw_604) (fun _ h9 => h9) rfl d_M_reads_154 ?_
                have hPc := hP.sub (ws' := [(a_m, .inr (5, [.int v_th, .ref a_sa, .int v_sz, .int a, .int wr, .ref a_ru, .ref a_me, .ref a_le, .int v_n, .ref a_cl, .ref a_te, .ref a_ki, .ref a_ty, .ref a_bl, .ref a_ex, .ref a_lo, .int v_nl, .ref a_ho, .ref a_fi, .int v_nf, .ref a_cz, .int v_nc]))]) [0] rfl
                have hKc := hK.sub (tys' := []) [] rfl
                have hDc := hD.sub (ws' := [(a_m, .inr (5, [.int v_th, .ref a_sa, .int v_sz, .int a, .int wr, .ref a_ru, .ref a_me, .ref a_le, .int v_n, .ref a_cl, .ref a_te, .ref a_ki, .ref a_ty, .ref a_bl, .ref a_ex, .ref a_lo, .int v_nl, .ref a_ho, .ref a_fi, .int v_nf, .ref a_cz, .int v_nc]))]) [0] (by decide) rfl
                have hFc := va_free (wc := [(a_m, .inr (5, [.int v_th, .ref a_sa, .int v_sz, .int a, .int wr, .ref a_ru, .ref a_me, .ref a_le, .int v_n, .ref a_cl, .ref a_te, .ref a_ki, .ref a_ty, .ref a_bl, .ref a_ex, .ref a_lo, .int v_nl, .ref a_ho, .ref a_fi, .int v_nf, .ref a_cz, .int v_nc]))]) hD hS hA [0] rfl
                refine va_calli (va_runV (As := [.int a]) (rest := []) ⟨hx, hb, hml, hown, hts⟩ (c_Mg_bad l dC dI adK adV (a_m := a_m) (p0 := a) (v_th := v_th) (a_sa := a_sa) (v_sz := v_sz) (v_at := a) (v_wr := wr) (a_ru := a_ru) (a_me := a_me) (a_le := a_le) (v_n := v_n) (a_cl := a_cl) (a_te := a_te) (a_ki := a_ki) (a_ty := a_ty) (a_bl := a_bl) (a_ex := a_ex) (a_lo := a_lo) (v_nl := v_nl) (a_ho := a_ho) (a_fi := a_fi) (v_nf := v_nf) (a_cz := a_cz) (v_nc := v_nc) (sz := H.size)) (cwV 1 hts (gV tw_688 tw_690 tw_28 tw_46 tw_691) rfl rfl rfl (by decide +kernel) ⟨(Nat.le_of_ble_eq_true rfl), (Nat.le_of_ble_eq_true rfl)⟩) ⟨fun a U g mk q => by obtain ⟨q0, q1, qZ, qP, qK, qD⟩ := q; exact ⟨q0, q1, zz_call qZ, qP, va_K.moved (u := U) (U := U.calling g mk a) (Vm.Alike.refl U.vm) qK, qD⟩, va_recv hKc hPc (ci := 5) (q0 := 0) rfl rfl, fun U hU hW => ⟨rfl, by rw [hU], zz_rw hS hFc hU hW hZ, by rw [hU]; exact hPc, va_K.moved hW.alike hKc, hDc.weaken (fun _ _ _ _ => trivial)⟩⟩ rfl rfl hl.1 rfl (lv_room (Nat.le_of_ble_eq_true rfl)) d_M_reads_157 ⟨(Nat.le_of_ble_eq_true rfl), (Nat.le_of_ble_eq_true rfl)⟩) hS (fun q _ h => hFc q h) hFc (fun r_12 u t H1 locs ht hvm hw_13 hB hz1 hk1 hS => ?_)
                obtain ⟨hP1, hK1, hD1⟩ := hB
                rw [ht] at hP1
                have hK1 := va_K.moved hvm.symm hK1
                obtain rfl : r_12 = 0 := hw_13
                obtain ⟨hP, hD⟩ := va_join (wr := [(a_sa, .inl (k_sa, 120, .inl f_sa)), (a_ru, .inl (k_ru, 410, .inl R))]) (w1 := [(a_m, .inr (5, [.int v_th, .ref a_sa, .int v_sz, .int a, .int a, .ref a_ru, .ref a_me, .ref a_le, .int v_n, .ref a_cl, .ref a_te, .ref a_ki, .ref a_ty, .ref a_bl, .ref a_ex, .ref a_lo, .int v_nl, .ref a_ho, .ref a_fi, .int v_nf, .ref a_cz, .int v_nc]))]) hP hD [0] [1, 2] rfl rfl (by decide) (by decide) hk1 hFc hP1 hD1
                replace hK := (hK.sub (tys' := [(k_sa, .byte), (k_ru, .int)]) [0, 1] rfl).app hK1
                generalize H1 = H at hP hS ⊢
                replace hP := hP.sub (ws' := [(a_m, .inr (5, [.int v_th, .ref a_sa, .int v_sz, .int a, .int a, .ref a_ru, .ref a_me, .ref a_le, .int v_n, .ref a_cl, .ref a_te, .ref a_ki, .ref a_ty, .ref a_bl, .ref a_ex, .ref a_lo, .int v_nl, .ref a_ho, .ref a_fi, .int v_nf, .ref a_cz, .int v_nc])), (a_sa, .inl (k_sa, 120, .inl f_sa)), (a_ru, .inl (k_ru, 410, .inl R))]) [2, 0, 1] rfl
                replace hD := hD.sub (ws' := [(a_m, .inr (5, [.int v_th, .ref a_sa, .int v_sz, .int a, .int a, .ref a_ru, .ref a_me, .ref a_le, .int v_n, .ref a_cl, .ref a_te, .ref a_ki, .ref a_ty, .ref a_bl, .ref a_ex, .ref a_lo, .int v_nl, .ref a_ho, .ref a_fi, .int v_nf, .ref a_cz, .int v_nc])), (a_sa, .inl (k_sa, 120, .inl f_sa)), (a_ru, .inl (k_ru, 410, .inl R))]) [2, 0, 1] (by decide) rfl
                replace hK := hK.sub (tys' := [(k_sa, .byte), (k_ru, .int)]) [0, 1] rfl
                have hP9 := hP.sub (ws' := [(a_m, .inr (5, [.int v_th, .ref a_sa, .int v_sz, .int a, .int a, .ref a_ru, .ref a_me, .ref a_le, .int v_n, .ref a_cl, .ref a_te, .ref a_ki, .ref a_ty, .ref a_bl, .ref a_ex, .ref a_lo, .int v_nl, .ref a_ho, .ref a_fi, .int v_nf, .ref a_cz, .int v_nc])), (a_sa, .inl (k_sa, 120, .inl f_sa)), (a_ru, .inl (k_ru, 410, .inl R))]) [0, 1, 2] rfl
                have hD9 := hD.sub (ws' := [(a_m, .inr (5, [.int v_th, .ref a_sa, .int v_sz, .int a, .int a, .ref a_ru, .ref a_me, .ref a_le, .int v_n, .ref a_cl, .ref a_te, .ref a_ki, .ref a_ty, .ref a_bl, .ref a_ex, .ref a_lo, .int v_nl, .ref a_ho, .ref a_fi, .int v_nf, .ref a_cz, .int v_nc])), (a_sa, .inl (k_sa, 120, .inl f_sa)), (a_ru, .inl (k_ru, 410, .inl R))]) [0, 1, 2] (by decide) rfl
                have hK9 := hK.sub (tys' := [(k_sa, .byte), (k_ru, .int)]) [0, 1] rfl
                exact W.zret (v := 0) hx hb hr rfl (fun t ht hW => ⟨⟨0, (), rfl, by rw [← hz, hE], by rw [ht, ← hz, hE]; exact hP9, va_K.moved hW.alike hK9, by rw [← hz, hE]; exact hD9⟩, hS.F ht⟩) hS.2.2 d_M_reads_160
              · refine lv_iload_n hx hb d_M_reads_148 rfl (lv_at hl 0 rfl) ?_
                refine lv_if_ne (tgt := 161) hx hb d_M_reads_149 (by decide) (fun c_14 => ?_) (fun c_14 => ?_)
                · exact absurd (by decide) c_14
                · subst hg_rd1
                  dsimp only at hE
                  rw [if_neg (by decide)] at hE
                  rw [if_neg (by decide)] at hE
                  rw [if_pos rfl] at hE
                  refine lv_aload_n hx hb d_M_reads_152 rfl (lv_at hl 3 rfl) ?_
                  refine lv_aload_n hx hb d_M_reads_153 rfl (lv_at hl 3 rfl) ?_
                  refine va_get (D := (dC, dI)) (ci := 5) (v := .int a) (C := "LoanRulesModel") (T := Fz_M) (N := 22) hx hb hts it_M hown hK hP 0 rfl rfl 3 (by decide) (hts _ tw_604) (fun _ h9 => h9) rfl d_M_reads_154 ?_
                  have hPc := hP.sub (ws' := [(a_m, .inr (5, [.int v_th, .ref a_sa, .int v_sz, .int a, .int wr, .ref a_ru, .ref a_me, .ref a_le, .int v_n, .ref a_cl, .ref a_te, .ref a_ki, .ref a_ty, .ref a_bl, .ref a_ex, .ref a_lo, .int v_nl, .ref a_ho, .ref a_fi, .int v_nf, .ref a_cz, .int v_nc]))]) [0] rfl
                  have hKc := hK.sub (tys' := []) [] rfl
                  have hDc := hD.sub (ws' := [(a_m, .inr (5, [.int v_th, .ref a_sa, .int v_sz, .int a, .int wr, .ref a_ru, .ref a_me, .ref a_le, .int v_n, .ref a_cl, .ref a_te, .ref a_ki, .ref a_ty, .ref a_bl, .ref a_ex, .ref a_lo, .int v_nl, .ref a_ho, .ref a_fi, .int v_nf, .ref a_cz, .int v_nc]))]) [0] (by decide) rfl
                  have hFc := va_free (wc := [(a_m, .inr (5, [.int v_th, .ref a_sa, .int v_sz, .int a, .int wr, .ref a_ru, .ref a_me, .ref a_le, .int v_n, .ref a_cl, .ref a_te, .ref a_ki, .ref a_ty, .ref a_bl, .ref a_ex, .ref a_lo, .int v_nl, .ref a_ho, .ref a_fi, .int v_nf, .ref a_cz, .int v_nc]))]) hD hS hA [0] rfl
                  refine va_calli (va_runV (As := [.int a]) (rest := []) ⟨hx, hb, hml, hown, hts⟩ (c_Mg_bad l dC dI adK adV (a_m := a_m) (p0 := a) (v_th := v_th) (a_sa := a_sa) (v_sz := v_sz) (v_at := a) (v_wr := wr) (a_ru := a_ru) (a_me := a_me) (a_le := a_le) (v_n := v_n) (a_cl := a_cl) (a_te := a_te) (a_ki := a_ki) (a_ty := a_ty) (a_bl := a_bl) (a_ex := a_ex) (a_lo := a_lo) (v_nl := v_nl) (a_ho := a_ho) (a_fi := a_fi) (v_nf := v_nf) (a_cz := a_cz) (v_nc := v_nc) (sz := H.size)) (cwV 1 hts (gV tw_688 tw_690 tw_28 tw_46 tw_691) rfl rfl rfl (by decide +kernel) ⟨(Nat.le_of_ble_eq_true rfl), (Nat.le_of_ble_eq_true rfl)⟩) ⟨fun a U g mk q => by obtain ⟨q0, q1, qZ, qP, qK, qD⟩ := q; exact ⟨q0, q1, zz_call qZ, qP, va_K.moved (u := U) (U := U.calling g mk a) (Vm.Alike.refl U.vm) qK, qD⟩, va_recv hKc hPc (ci := 5) (q0 := 0) rfl rfl, fun U hU hW => ⟨rfl, by rw [hU], zz_rw hS hFc hU hW hZ, by rw [hU]; exact hPc, va_K.moved hW.alike hKc, hDc.weaken (fun _ _ _ _ => trivial)⟩⟩ rfl rfl hl.1 rfl (lv_room (Nat.le_of_ble_eq_true rfl)) d_M_reads_157 ⟨(Nat.le_of_ble_eq_true rfl), (Nat.le_of_ble_eq_true rfl)⟩) hS (fun q _ h => hFc q h) hFc (fun r_15 u t H1 locs ht hvm hw_16 hB hz1 hk1 hS => ?_)
                  obtain ⟨hP1, hK1, hD1⟩ := hB
                  rw [ht] at hP1
                  have hK1 := va_K.moved hvm.symm hK1
                  obtain rfl : r_15 = 0 := hw_16
                  obtain ⟨hP, hD⟩ := va_join (wr := [(a_sa, .inl (k_sa, 120, .inl f_sa)), (a_ru, .inl (k_ru, 410, .inl R))]) (w1 := [(a_m, .inr (5, [.int v_th, .ref a_sa, .int v_sz, .int a, .int a, .ref a_ru, .ref a_me, .ref a_le, .int v_n, .ref a_cl, .ref a_te, .ref a_ki, .ref a_ty, .ref a_bl, .ref a_ex, .ref a_lo, .int v_nl, .ref a_ho, .ref a_fi, .int v_nf, .ref a_cz, .int v_nc]))]) hP hD [0] [1, 2] rfl rfl (by decide) (by decide) hk1 hFc hP1 hD1
                  replace hK := (hK.sub (tys' := [(k_sa, .byte), (k_ru, .int)]) [0, 1] rfl).app hK1
                  generalize H1 = H at hP hS ⊢
                  replace hP := hP.sub (ws' := [(a_m, .inr (5, [.int v_th, .ref a_sa, .int v_sz, .int a, .int a, .ref a_ru, .ref a_me, .ref a_le, .int v_n, .ref a_cl, .ref a_te, .ref a_ki, .ref a_ty, .ref a_bl, .ref a_ex, .ref a_lo, .int v_nl, .ref a_ho, .ref a_fi, .int v_nf, .ref a_cz, .int v_nc])), (a_sa, .inl (k_sa, 120, .inl f_sa)), (a_ru, .inl (k_ru, 410, .inl R))]) [2, 0, 1] rfl
                  replace hD := hD.sub (ws' := [(a_m, .inr (5, [.int v_th, .ref a_sa, .int v_sz, .int a, .int a, .ref a_ru, .ref a_me, .ref a_le, .int v_n, .ref a_cl, .ref a_te, .ref a_ki, .ref a_ty, .ref a_bl, .ref a_ex, .ref a_lo, .int v_nl, .ref a_ho, .ref a_fi, .int v_nf, .ref a_cz, .int v_nc])), (a_sa, .inl (k_sa, 120, .inl f_sa)), (a_ru, .inl (k_ru, 410, .inl R))]) [2, 0, 1] (by decide) rfl
                  replace hK := hK.sub (tys' := [(k_sa, .byte), (k_ru, .int)]) [0, 1] rfl
                  have hP9 := hP.sub (ws' := [(a_m, .inr (5, [.int v_th, .ref a_sa, .int v_sz, .int a, .int a, .ref a_ru, .ref a_me, .ref a_le, .int v_n, .ref a_cl, .ref a_te, .ref a_ki, .ref a_ty, .ref a_bl, .ref a_ex, .ref a_lo, .int v_nl, .ref a_ho, .ref a_fi, .int v_nf, .ref a_cz, .int v_nc])), (a_sa, .inl (k_sa, 120, .inl f_sa)), (a_ru, .inl (k_ru, 410, .inl R))]) [0, 1, 2] rfl
                  have hD9 := hD.sub (ws' := [(a_m, .inr (5, [.int v_th, .ref a_sa, .int v_sz, .int a, .int a, .ref a_ru, .ref a_me, .ref a_le, .int v_n, .ref a_cl, .ref a_te, .ref a_ki, .ref a_ty, .ref a_bl, .ref a_ex, .ref a_lo, .int v_nl, .ref a_ho, .ref a_fi, .int v_nf, .ref a_cz, .int v_nc])), (a_sa, .inl (k_sa, 120, .inl f_sa)), (a_ru, .inl (k_ru, 410, .inl R))]) [0, 1, 2] (by decide) rfl
                  have hK9 := hK.sub (tys' := [(k_sa, .byte), (k_ru, .int)]) [0, 1] rfl
                  exact W.zret (v := 0) hx hb hr rfl (fun t ht hW => ⟨⟨0, (), rfl, by rw [← hz, hE], by rw [ht, ← hz, hE]; exact hP9, va_K.moved hW.alike hK9, by rw [← hz, hE]; exact hD9⟩, hS.F ht⟩) hS.2.2 d_M_reads_160
            · rw [if_neg c_10] at hg_rd1
              refine lv_iload_n hx hb d_M_reads_98 rfl (lv_at hl 1 rfl) ?_
              refine lv_iconst (v := 4) hx hb d_M_reads_99 (by decide) ?_
              refine lv_icmp_ge (tgt := 112) hx hb d_M_reads_100 (by decide) (fun c_17 => ?_) (fun c_17 => ?_)
              · rw [if_pos c_17] at hg_rd1
                refine lv_iload_n hx hb d_M_reads_112 rfl (lv_at hl 1 rfl) ?_
                refine lv_iconst (v := 5) hx hb d_M_reads_113 (by decide) ?_
                refine lv_icmp_eq (tgt := 123) hx hb d_M_reads_114 (by decide) (fun c_18 => ?_) (fun c_18 => ?_)
                · rw [if_pos c_18] at hg_rd1
                  refine lv_iload_n hx hb d_M_reads_123 rfl (lv_at hl 0 rfl) ?_
                  refine lv_bipush (v := 10) hx hb d_M_reads_124 (by decide) ?_
                  refine lv_icmp_ne (tgt := 142) hx hb d_M_reads_126 (by decide) (fun c_19 => ?_) (fun c_19 => ?_)
                  · rw [if_neg c_19] at hg_rd1
                    refine lv_iconst (v := 0) hx hb d_M_reads_142 (by decide) ?_
                    refine lv_istore_n (lv' := [(3, .int 0), (2, .int (g_Mg_step (g_Mg_word v_sz a f_sa))), (1, .int la), (0, .ref a_m)]) hx hb d_M_reads_143 rfl hl (by decide) rfl (fun ls hl => ?_)
                    refine lv_iload_n hx hb d_M_reads_144 rfl (lv_at hl 1 rfl) ?_
                    refine lv_if_eq (tgt := 152) hx hb d_M_reads_145 (by decide) (fun c_20 => ?_) (fun c_20 => ?_)
                    · subst hg_rd1
                      dsimp only at hE
                      rw [if_neg (by decide)] at hE
                      rw [if_neg (by decide)] at hE
                      rw [if_pos rfl] at hE
                      refine lv_aload_n hx hb d_M_reads_152 rfl (lv_at hl 3 rfl) ?_
                      refine lv_aload_n hx hb d_M_reads_153 rfl (lv_at hl 3 rfl) ?_
                      refine va_get (D := (dC, dI)) (ci := 5) (v := .int a) (C := "LoanRulesModel") (T := Fz_M) (N := 22) hx hb hts it_M hown hK hP 0 rfl rfl 3 (by decide) (hts _ tw_604) (fun _ h9 => h9) rfl d_M_reads_154 ?_
                      have hPc := hP.sub (ws' := [(a_m, .inr (5, [.int v_th, .ref a_sa, .int v_sz, .int a, .int wr, .ref a_ru, .ref a_me, .ref a_le, .int v_n, .ref a_cl, .ref a_te, .ref a_ki, .ref a_ty, .ref a_bl, .ref a_ex, .ref a_lo, .int v_nl, .ref a_ho, .ref a_fi, .int v_nf, .ref a_cz, .int v_nc]))]) [0] rfl
                      have hKc := hK.sub (tys' := []) [] rfl
                      have hDc := hD.sub (ws' := [(a_m, .inr (5, [.int v_th, .ref a_sa, .int v_sz, .int a, .int wr, .ref a_ru, .ref a_me, .ref a_le, .int v_n, .ref a_cl, .ref a_te, .ref a_ki, .ref a_ty, .ref a_bl, .ref a_ex, .ref a_lo, .int v_nl, .ref a_ho, .ref a_fi, .int v_nf, .ref a_cz, .int v_nc]))]) [0] (by decide) rfl
                      have hFc := va_free (wc := [(a_m, .inr (5, [.int v_th, .ref a_sa, .int v_sz, .int a, .int wr, .ref a_ru, .ref a_me, .ref a_le, .int v_n, .ref a_cl, .ref a_te, .ref a_ki, .ref a_ty, .ref a_bl, .ref a_ex, .ref a_lo, .int v_nl, .ref a_ho, .ref a_fi, .int v_nf, .ref a_cz, .int v_nc]))]) hD hS hA [0] rfl
                      refine va_calli (va_runV (As := [.int a]) (rest := []) ⟨hx, hb, hml, hown, hts⟩ (c_Mg_bad l dC dI adK adV (a_m := a_m) (p0 := a) (v_th := v_th) (a_sa := a_sa) (v_sz := v_sz) (v_at := a) (v_wr := wr) (a_ru := a_ru) (a_me := a_me) (a_le := a_le) (v_n := v_n) (a_cl := a_cl) (a_te := a_te) (a_ki := a_ki) (a_ty := a_ty) (a_bl := a_bl) (a_ex := a_ex) (a_lo := a_lo) (v_nl := v_nl) (a_ho := a_ho) (a_fi := a_fi) (v_nf := v_nf) (a_cz := a_cz) (v_nc := v_nc) (sz := H.size)) (cwV 1 hts (gV tw_688 tw_690 tw_28 tw_46 tw_691) rfl rfl rfl (by decide +kernel) ⟨(Nat.le_of_ble_eq_true rfl), (Nat.le_of_ble_eq_true rfl)⟩) ⟨fun a U g mk q => by obtain ⟨q0, q1, qZ, qP, qK, qD⟩ := q; exact ⟨q0, q1, zz_call qZ, qP, va_K.moved (u := U) (U := U.calling g mk a) (Vm.Alike.refl U.vm) qK, qD⟩, va_recv hKc hPc (ci := 5) (q0 := 0) rfl rfl, fun U hU hW => ⟨rfl, by rw [hU], zz_rw hS hFc hU hW hZ, by rw [hU]; exact hPc, va_K.moved hW.alike hKc, hDc.weaken (fun _ _ _ _ => trivial)⟩⟩ rfl rfl hl.1 rfl (lv_room (Nat.le_of_ble_eq_true rfl)) d_M_reads_157 ⟨(Nat.le_of_ble_eq_true rfl), (Nat.le_of_ble_eq_true rfl)⟩) hS (fun q _ h => hFc q h) hFc (fun r_21 u t H1 locs ht hvm hw_22 hB hz1 hk1 hS => ?_)
                      obtain ⟨hP1, hK1, hD1⟩ := hB
                      rw [ht] at hP1
                      have hK1 := va_K.moved hvm.symm hK1
                      obtain rfl : r_21 = 0 := hw_22
                      obtain ⟨hP, hD⟩ := va_join (wr := [(a_sa, .inl (k_sa, 120, .inl f_sa)), (a_ru, .inl (k_ru, 410, .inl R))]) (w1 := [(a_m, .inr (5, [.int v_th, .ref a_sa, .int v_sz, .int a, .int a, .ref a_ru, .ref a_me, .ref a_le, .int v_n, .ref a_cl, .ref a_te, .ref a_ki, .ref a_ty, .ref a_bl, .ref a_ex, .ref a_lo, .int v_nl, .ref a_ho, .ref a_fi, .int v_nf, .ref a_cz, .int v_nc]))]) hP hD [0] [1, 2] rfl rfl (by decide) (by decide) hk1 hFc hP1 hD1
                      replace hK := (hK.sub (tys' := [(k_sa, .byte), (k_ru, .int)]) [0, 1] rfl).app hK1
                      generalize H1 = H at hP hS ⊢
                      replace hP := hP.sub (ws' := [(a_m, .inr (5, [.int v_th, .ref a_sa, .int v_sz, .int a, .int a, .ref a_ru, .ref a_me, .ref a_le, .int v_n, .ref a_cl, .ref a_te, .ref a_ki, .ref a_ty, .ref a_bl, .ref a_ex, .ref a_lo, .int v_nl, .ref a_ho, .ref a_fi, .int v_nf, .ref a_cz, .int v_nc])), (a_sa, .inl (k_sa, 120, .inl f_sa)), (a_ru, .inl (k_ru, 410, .inl R))]) [2, 0, 1] rfl
                      replace hD := hD.sub (ws' := [(a_m, .inr (5, [.int v_th, .ref a_sa, .int v_sz, .int a, .int a, .ref a_ru, .ref a_me, .ref a_le, .int v_n, .ref a_cl, .ref a_te, .ref a_ki, .ref a_ty, .ref a_bl, .ref a_ex, .ref a_lo, .int v_nl, .ref a_ho, .ref a_fi, .int v_nf, .ref a_cz, .int v_nc])), (a_sa, .inl (k_sa, 120, .inl f_sa)), (a_ru, .inl (k_ru, 410, .inl R))]) [2, 0, 1] (by decide) rfl
                      replace hK := hK.sub (tys' := [(k_sa, .byte), (k_ru, .int)]) [0, 1] rfl
                      have hP9 := hP.sub (ws' := [(a_m, .inr (5, [.int v_th, .ref a_sa, .int v_sz, .int a, .int a, .ref a_ru, .ref a_me, .ref a_le, .int v_n, .ref a_cl, .ref a_te, .ref a_ki, .ref a_ty, .ref a_bl, .ref a_ex, .ref a_lo, .int v_nl, .ref a_ho, .ref a_fi, .int v_nf, .ref a_cz, .int v_nc])), (a_sa, .inl (k_sa, 120, .inl f_sa)), (a_ru, .inl (k_ru, 410, .inl R))]) [0, 1, 2] rfl
                      have hD9 := hD.sub (ws' := [(a_m, .inr (5, [.int v_th, .ref a_sa, .int v_sz, .int a, .int a, .ref a_ru, .ref a_me, .ref a_le, .int v_n, .ref a_cl, .ref a_te, .ref a_ki, .ref a_ty, .ref a_bl, .ref a_ex, .ref a_lo, .int v_nl, .ref a_ho, .ref a_fi, .int v_nf, .ref a_cz, .int v_nc])), (a_sa, .inl (k_sa, 120, .inl f_sa)), (a_ru, .inl (k_ru, 410, .inl R))]) [0, 1, 2] (by decide) rfl
                      have hK9 := hK.sub (tys' := [(k_sa, .byte), (k_ru, .int)]) [0, 1] rfl
                      exact W.zret (v := 0) hx hb hr rfl (fun t ht hW => ⟨⟨0, (), rfl, by rw [← hz, hE], by rw [ht, ← hz, hE]; exact hP9, va_K.moved hW.alike hK9, by rw [← hz, hE]; exact hD9⟩, hS.F ht⟩) hS.2.2 d_M_reads_160
                    · refine lv_iload_n hx hb d_M_reads_148 rfl (lv_at hl 0 rfl) ?_
                      refine lv_if_ne (tgt := 161) hx hb d_M_reads_149 (by decide) (fun c_23 => ?_) (fun c_23 => ?_)
                      · exact absurd (by decide) c_23
                      · subst hg_rd1
                        dsimp only at hE
                        rw [if_neg (by decide)] at hE
                        rw [if_neg (by decide)] at hE
                        rw [if_pos rfl] at hE
                        refine lv_aload_n hx hb d_M_reads_152 rfl (lv_at hl 3 rfl) ?_
                        refine lv_aload_n hx hb d_M_reads_153 rfl (lv_at hl 3 rfl) ?_
                        refine va_get (D := (dC, dI)) (ci := 5) (v := .int a) (C := "LoanRulesModel") (T := Fz_M) (N := 22) hx hb hts it_M hown hK hP 0 rfl rfl 3 (by decide) (hts _ tw_604) (fun _ h9 => h9) rfl d_M_reads_154 ?_
                        have hPc := hP.sub (ws' := [(a_m, .inr (5, [.int v_th, .ref a_sa, .int v_sz, .int a, .int wr, .ref a_ru, .ref a_me, .ref a_le, .int v_n, .ref a_cl, .ref a_te, .ref a_ki, .ref a_ty, .ref a_bl, .ref a_ex, .ref a_lo, .int v_nl, .ref a_ho, .ref a_fi, .int v_nf, .ref a_cz, .int v_nc]))]) [0] rfl
                        have hKc := hK.sub (tys' := []) [] rfl
                        have hDc := hD.sub (ws' := [(a_m, .inr (5, [.int v_th, .ref a_sa, .int v_sz, .int a, .int wr, .ref a_ru, .ref a_me, .ref a_le, .int v_n, .ref a_cl, .ref a_te, .ref a_ki, .ref a_ty, .ref a_bl, .ref a_ex, .ref a_lo, .int v_nl, .ref a_ho, .ref a_fi, .int v_nf, .ref a_cz, .int v_nc]))]) [0] (by decide) rfl
                        have hFc := va_free (wc := [(a_m, .inr (5, [.int v_th, .ref a_sa, .int v_sz, .int a, .int wr, .ref a_ru, .ref a_me, .ref a_le, .int v_n, .ref a_cl, .ref a_te, .ref a_ki, .ref a_ty, .ref a_bl, .ref a_ex, .ref a_lo, .int v_nl, .ref a_ho, .ref a_fi, .int v_nf, .ref a_cz, .int v_nc]))]) hD hS hA [0] rfl
                        refine va_calli (va_runV (As := [.int a]) (rest := []) ⟨hx, hb, hml, hown, hts⟩ (c_Mg_bad l dC dI adK adV (a_m := a_m) (p0 := a) (v_th := v_th) (a_sa := a_sa) (v_sz := v_sz) (v_at := a) (v_wr := wr) (a_ru := a_ru) (a_me := a_me) (a_le := a_le) (v_n := v_n) (a_cl := a_cl) (a_te := a_te) (a_ki := a_ki) (a_ty := a_ty) (a_bl := a_bl) (a_ex := a_ex) (a_lo := a_lo) (v_nl := v_nl) (a_ho := a_ho) (a_fi := a_fi) (v_nf := v_nf) (a_cz := a_cz) (v_nc := v_nc) (sz := H.size)) (cwV 1 hts (gV tw_688 tw_690 tw_28 tw_46 tw_691) rfl rfl rfl (by decide +kernel) ⟨(Nat.le_of_ble_eq_true rfl), (Nat.le_of_ble_eq_true rfl)⟩) ⟨fun a U g mk q => by obtain ⟨q0, q1, qZ, qP, qK, qD⟩ := q; exact ⟨q0, q1, zz_call qZ, qP, va_K.moved (u := U) (U := U.calling g mk a) (Vm.Alike.refl U.vm) qK, qD⟩, va_recv hKc hPc (ci := 5) (q0 := 0) rfl rfl, fun U hU hW => ⟨rfl, by rw [hU], zz_rw hS hFc hU hW hZ, by rw [hU]; exact hPc, va_K.moved hW.alike hKc, hDc.weaken (fun _ _ _ _ => trivial)⟩⟩ rfl rfl hl.1 rfl (lv_room (Nat.le_of_ble_eq_true rfl)) d_M_reads_157 ⟨(Nat.le_of_ble_eq_true rfl), (Nat.le_of_ble_eq_true rfl)⟩) hS (fun q _ h => hFc q h) hFc (fun r_24 u t H1 locs ht hvm hw_25 hB hz1 hk1 hS => ?_)
                        obtain ⟨hP1, hK1, hD1⟩ := hB
                        rw [ht] at hP1
                        have hK1 := va_K.moved hvm.symm hK1
                        obtain rfl : r_24 = 0 := hw_25
                        obtain ⟨hP, hD⟩ := va_join (wr := [(a_sa, .inl (k_sa, 120, .inl f_sa)), (a_ru, .inl (k_ru, 410, .inl R))]) (w1 := [(a_m, .inr (5, [.int v_th, .ref a_sa, .int v_sz, .int a, .int a, .ref a_ru, .ref a_me, .ref a_le, .int v_n, .ref a_cl, .ref a_te, .ref a_ki, .ref a_ty, .ref a_bl, .ref a_ex, .ref a_lo, .int v_nl, .ref a_ho, .ref a_fi, .int v_nf, .ref a_cz, .int v_nc]))]) hP hD [0] [1, 2] rfl rfl (by decide) (by decide) hk1 hFc hP1 hD1
                        replace hK := (hK.sub (tys' := [(k_sa, .byte), (k_ru, .int)]) [0, 1] rfl).app hK1
                        generalize H1 = H at hP hS ⊢
                        replace hP := hP.sub (ws' := [(a_m, .inr (5, [.int v_th, .ref a_sa, .int v_sz, .int a, .int a, .ref a_ru, .ref a_me, .ref a_le, .int v_n, .ref a_cl, .ref a_te, .ref a_ki, .ref a_ty, .ref a_bl, .ref a_ex, .ref a_lo, .int v_nl, .ref a_ho, .ref a_fi, .int v_nf, .ref a_cz, .int v_nc])), (a_sa, .inl (k_sa, 120, .inl f_sa)), (a_ru, .inl (k_ru, 410, .inl R))]) [2, 0, 1] rfl
                        replace hD := hD.sub (ws' := [(a_m, .inr (5, [.int v_th, .ref a_sa, .int v_sz, .int a, .int a, .ref a_ru, .ref a_me, .ref a_le, .int v_n, .ref a_cl, .ref a_te, .ref a_ki, .ref a_ty, .ref a_bl, .ref a_ex, .ref a_lo, .int v_nl, .ref a_ho, .ref a_fi, .int v_nf, .ref a_cz, .int v_nc])), (a_sa, .inl (k_sa, 120, .inl f_sa)), (a_ru, .inl (k_ru, 410, .inl R))]) [2, 0, 1] (by decide) rfl
                        replace hK := hK.sub (tys' := [(k_sa, .byte), (k_ru, .int)]) [0, 1] rfl
                        have hP9 := hP.sub (ws' := [(a_m, .inr (5, [.int v_th, .ref a_sa, .int v_sz, .int a, .int a, .ref a_ru, .ref a_me, .ref a_le, .int v_n, .ref a_cl, .ref a_te, .ref a_ki, .ref a_ty, .ref a_bl, .ref a_ex, .ref a_lo, .int v_nl, .ref a_ho, .ref a_fi, .int v_nf, .ref a_cz, .int v_nc])), (a_sa, .inl (k_sa, 120, .inl f_sa)), (a_ru, .inl (k_ru, 410, .inl R))]) [0, 1, 2] rfl
                        have hD9 := hD.sub (ws' := [(a_m, .inr (5, [.int v_th, .ref a_sa, .int v_sz, .int a, .int a, .ref a_ru, .ref a_me, .ref a_le, .int v_n, .ref a_cl, .ref a_te, .ref a_ki, .ref a_ty, .ref a_bl, .ref a_ex, .ref a_lo, .int v_nl, .ref a_ho, .ref a_fi, .int v_nf, .ref a_cz, .int v_nc])), (a_sa, .inl (k_sa, 120, .inl f_sa)), (a_ru, .inl (k_ru, 410, .inl R))]) [0, 1, 2] (by decide) rfl
                        have hK9 := hK.sub (tys' := [(k_sa, .byte), (k_ru, .int)]) [0, 1] rfl
                        exact W.zret (v := 0) hx hb hr rfl (fun t ht hW => ⟨⟨0, (), rfl, by rw [← hz, hE], by rw [ht, ← hz, hE]; exact hP9, va_K.moved hW.alike hK9, by rw [← hz, hE]; exact hD9⟩, hS.F ht⟩) hS.2.2 d_M_reads_160
                  · rw [if_pos c_19] at hg_rd1
                    refine lv_goto (tgt := 138) hx hb d_M_reads_129 (by decide) ?_
                    refine lv_iconst (v := 1) hx hb d_M_reads_138 (by decide) ?_
                    refine lv_goto (tgt := 143) hx hb d_M_reads_139 (by decide) ?_
                    refine lv_istore_n (lv' := [(3, .int 1), (2, .int (g_Mg_step (g_Mg_word v_sz a f_sa))), (1, .int la), (0, .ref a_m)]) hx hb d_M_reads_143 rfl hl (by decide) rfl (fun ls hl => ?_)
                    refine lv_iload_n hx hb d_M_reads_144 rfl (lv_at hl 1 rfl) ?_
                    refine lv_if_eq (tgt := 152) hx hb d_M_reads_145 (by decide) (fun c_26 => ?_) (fun c_26 => ?_)
                    · rw [if_pos c_26] at hg_rd1
                      subst hg_rd1
                      dsimp only at hE
                      rw [if_neg (by decide)] at hE
                      rw [if_neg (by decide)] at hE
                      rw [if_pos rfl] at hE
                      refine lv_aload_n hx hb d_M_reads_152 rfl (lv_at hl 3 rfl) ?_
                      refine lv_aload_n hx hb d_M_reads_153 rfl (lv_at hl 3 rfl) ?_
                      refine va_get (D := (dC, dI)) (ci := 5) (v := .int a) (C := "LoanRulesModel") (T := Fz_M) (N := 22) hx hb hts it_M hown hK hP 0 rfl rfl 3 (by decide) (hts _ tw_604) (fun _ h9 => h9) rfl d_M_reads_154 ?_
                      have hPc := hP.sub (ws' := [(a_m, .inr (5, [.int v_th, .ref a_sa, .int v_sz, .int a, .int wr, .ref a_ru, .ref a_me, .ref a_le, .int v_n, .ref a_cl, .ref a_te, .ref a_ki, .ref a_ty, .ref a_bl, .ref a_ex, .ref a_lo, .int v_nl, .ref a_ho, .ref a_fi, .int v_nf, .ref a_cz, .int v_nc]))]) [0] rfl
                      have hKc := hK.sub (tys' := []) [] rfl
                      have hDc := hD.sub (ws' := [(a_m, .inr (5, [.int v_th, .ref a_sa, .int v_sz, .int a, .int wr, .ref a_ru, .ref a_me, .ref a_le, .int v_n, .ref a_cl, .ref a_te, .ref a_ki, .ref a_ty, .ref a_bl, .ref a_ex, .ref a_lo, .int v_nl, .ref a_ho, .ref a_fi, .int v_nf, .ref a_cz, .int v_nc]))]) [0] (by decide) rfl
                      have hFc := va_free (wc := [(a_m, .inr (5, [.int v_th, .ref a_sa, .int v_sz, .int a, .int wr, .ref a_ru, .ref a_me, .ref a_le, .int v_n, .ref a_cl, .ref a_te, .ref a_ki, .ref a_ty, .ref a_bl, .ref a_ex, .ref a_lo, .int v_nl, .ref a_ho, .ref a_fi, .int v_nf, .ref a_cz, .int v_nc]))]) hD hS hA [0] rfl
                      refine va_calli (va_runV (As := [.int a]) (rest := []) ⟨hx, hb, hml, hown, hts⟩ (c_Mg_bad l dC dI adK adV (a_m := a_m) (p0 := a) (v_th := v_th) (a_sa := a_sa) (v_sz := v_sz) (v_at := a) (v_wr := wr) (a_ru := a_ru) (a_me := a_me) (a_le := a_le) (v_n := v_n) (a_cl := a_cl) (a_te := a_te) (a_ki := a_ki) (a_ty := a_ty) (a_bl := a_bl) (a_ex := a_ex) (a_lo := a_lo) (v_nl := v_nl) (a_ho := a_ho) (a_fi := a_fi) (v_nf := v_nf) (a_cz := a_cz) (v_nc := v_nc) (sz := H.size)) (cwV 1 hts (gV tw_688 tw_690 tw_28 tw_46 tw_691) rfl rfl rfl (by decide +kernel) ⟨(Nat.le_of_ble_eq_true rfl), (Nat.le_of_ble_eq_true rfl)⟩) ⟨fun a U g mk q => by obtain ⟨q0, q1, qZ, qP, qK, qD⟩ := q; exact ⟨q0, q1, zz_call qZ, qP, va_K.moved (u := U) (U := U.calling g mk a) (Vm.Alike.refl U.vm) qK, qD⟩, va_recv hKc hPc (ci := 5) (q0 := 0) rfl rfl, fun U hU hW => ⟨rfl, by rw [hU], zz_rw hS hFc hU hW hZ, by rw [hU]; exact hPc, va_K.moved hW.alike hKc, hDc.weaken (fun _ _ _ _ => trivial)⟩⟩ rfl rfl hl.1 rfl (lv_room (Nat.le_of_ble_eq_true rfl)) d_M_reads_157 ⟨(Nat.le_of_ble_eq_true rfl), (Nat.le_of_ble_eq_true rfl)⟩) hS (fun q _ h => hFc q h) hFc (fun r_27 u t H1 locs ht hvm hw_28 hB hz1 hk1 hS => ?_)
                      obtain ⟨hP1, hK1, hD1⟩ := hB
                      rw [ht] at hP1
                      have hK1 := va_K.moved hvm.symm hK1
                      obtain rfl : r_27 = 0 := hw_28
                      obtain ⟨hP, hD⟩ := va_join (wr := [(a_sa, .inl (k_sa, 120, .inl f_sa)), (a_ru, .inl (k_ru, 410, .inl R))]) (w1 := [(a_m, .inr (5, [.int v_th, .ref a_sa, .int v_sz, .int a, .int a, .ref a_ru, .ref a_me, .ref a_le, .int v_n, .ref a_cl, .ref a_te, .ref a_ki, .ref a_ty, .ref a_bl, .ref a_ex, .ref a_lo, .int v_nl, .ref a_ho, .ref a_fi, .int v_nf, .ref a_cz, .int v_nc]))]) hP hD [0] [1, 2] rfl rfl (by decide) (by decide) hk1 hFc hP1 hD1
                      replace hK := (hK.sub (tys' := [(k_sa, .byte), (k_ru, .int)]) [0, 1] rfl).app hK1
                      generalize H1 = H at hP hS ⊢
                      replace hP := hP.sub (ws' := [(a_m, .inr (5, [.int v_th, .ref a_sa, .int v_sz, .int a, .int a, .ref a_ru, .ref a_me, .ref a_le, .int v_n, .ref a_cl, .ref a_te, .ref a_ki, .ref a_ty, .ref a_bl, .ref a_ex, .ref a_lo, .int v_nl, .ref a_ho, .ref a_fi, .int v_nf, .ref a_cz, .int v_nc])), (a_sa, .inl (k_sa, 120, .inl f_sa)), (a_ru, .inl (k_ru, 410, .inl R))]) [2, 0, 1] rfl
                      replace hD := hD.sub (ws' := [(a_m, .inr (5, [.int v_th, .ref a_sa, .int v_sz, .int a, .int a, .ref a_ru, .ref a_me, .ref a_le, .int v_n, .ref a_cl, .ref a_te, .ref a_ki, .ref a_ty, .ref a_bl, .ref a_ex, .ref a_lo, .int v_nl, .ref a_ho, .ref a_fi, .int v_nf, .ref a_cz, .int v_nc])), (a_sa, .inl (k_sa, 120, .inl f_sa)), (a_ru, .inl (k_ru, 410, .inl R))]) [2, 0, 1] (by decide) rfl
                      replace hK := hK.sub (tys' := [(k_sa, .byte), (k_ru, .int)]) [0, 1] rfl
                      have hP9 := hP.sub (ws' := [(a_m, .inr (5, [.int v_th, .ref a_sa, .int v_sz, .int a, .int a, .ref a_ru, .ref a_me, .ref a_le, .int v_n, .ref a_cl, .ref a_te, .ref a_ki, .ref a_ty, .ref a_bl, .ref a_ex, .ref a_lo, .int v_nl, .ref a_ho, .ref a_fi, .int v_nf, .ref a_cz, .int v_nc])), (a_sa, .inl (k_sa, 120, .inl f_sa)), (a_ru, .inl (k_ru, 410, .inl R))]) [0, 1, 2] rfl
                      have hD9 := hD.sub (ws' := [(a_m, .inr (5, [.int v_th, .ref a_sa, .int v_sz, .int a, .int a, .ref a_ru, .ref a_me, .ref a_le, .int v_n, .ref a_cl, .ref a_te, .ref a_ki, .ref a_ty, .ref a_bl, .ref a_ex, .ref a_lo, .int v_nl, .ref a_ho, .ref a_fi, .int v_nf, .ref a_cz, .int v_nc])), (a_sa, .inl (k_sa, 120, .inl f_sa)), (a_ru, .inl (k_ru, 410, .inl R))]) [0, 1, 2] (by decide) rfl
                      have hK9 := hK.sub (tys' := [(k_sa, .byte), (k_ru, .int)]) [0, 1] rfl
                      exact W.zret (v := 0) hx hb hr rfl (fun t ht hW => ⟨⟨0, (), rfl, by rw [← hz, hE], by rw [ht, ← hz, hE]; exact hP9, va_K.moved hW.alike hK9, by rw [← hz, hE]; exact hD9⟩, hS.F ht⟩) hS.2.2 d_M_reads_160
                    · rw [if_neg c_26] at hg_rd1
                      refine lv_iload_n hx hb d_M_reads_148 rfl (lv_at hl 0 rfl) ?_
                      refine lv_if_ne (tgt := 161) hx hb d_M_reads_149 (by decide) (fun c_29 => ?_) (fun c_29 => ?_)
                      · refine lv_aload_n hx hb d_M_reads_161 rfl (lv_at hl 3 rfl) ?_
                        have hPc := hP.sub (ws' := [(a_m, .inr (5, [.int v_th, .ref a_sa, .int v_sz, .int a, .int wr, .ref a_ru, .ref a_me, .ref a_le, .int v_n, .ref a_cl, .ref a_te, .ref a_ki, .ref a_ty, .ref a_bl, .ref a_ex, .ref a_lo, .int v_nl, .ref a_ho, .ref a_fi, .int v_nf, .ref a_cz, .int v_nc])), (a_sa, .inl (k_sa, 120, .inl f_sa))]) [0, 1] rfl
                        have hKc := hK.sub (tys' := [(k_sa, .byte)]) [0] rfl
                        have hDc := hD.sub (ws' := [(a_m, .inr (5, [.int v_th, .ref a_sa, .int v_sz, .int a, .int wr, .ref a_ru, .ref a_me, .ref a_le, .int v_n, .ref a_cl, .ref a_te, .ref a_ki, .ref a_ty, .ref a_bl, .ref a_ex, .ref a_lo, .int v_nl, .ref a_ho, .ref a_fi, .int v_nf, .ref a_cz, .int v_nc])), (a_sa, .inl (k_sa, 120, .inl f_sa))]) [0, 1] (by decide) rfl
                        have hFc := va_free (wc := [(a_m, .inr (5, [.int v_th, .ref a_sa, .int v_sz, .int a, .int wr, .ref a_ru, .ref a_me, .ref a_le, .int v_n, .ref a_cl, .ref a_te, .ref a_ki, .ref a_ty, .ref a_bl, .ref a_ex, .ref a_lo, .int v_nl, .ref a_ho, .ref a_fi, .int v_nf, .ref a_cz, .int v_nc])), (a_sa, .inl (k_sa, 120, .inl f_sa))]) hD hS hA [0, 1] rfl
                        refine va_callv (va_runV (As := []) (rest := []) ⟨hx, hb, hml, hown, hts⟩ (c_Mg_pass l dC dI adK adV (a_m := a_m) (v_th := v_th) (a_sa := a_sa) (v_sz := v_sz) (v_at := a) (v_wr := wr) (a_ru := a_ru) (a_me := a_me) (a_le := a_le) (v_n := v_n) (a_cl := a_cl) (a_te := a_te) (a_ki := a_ki) (a_ty := a_ty) (a_bl := a_bl) (a_ex := a_ex) (a_lo := a_lo) (v_nl := v_nl) (a_ho := a_ho) (a_fi := a_fi) (v_nf := v_nf) (a_cz := a_cz) (v_nc := v_nc) (k_sa := k_sa) (f_sa := f_sa) (sz := H.size) hsz ha) (cwV 0 hts (gV tw_712 tw_714 tw_30 tw_46 tw_715) rfl rfl rfl (by decide +kernel) ⟨(Nat.le_of_ble_eq_true rfl), (Nat.le_of_ble_eq_true rfl)⟩) ⟨fun a U g mk q => by obtain ⟨q0, q1, qZ, qP, qK, qD⟩ := q; exact ⟨q0, q1, zz_call qZ, qP, va_K.moved (u := U) (U := U.calling g mk a) (Vm.Alike.refl U.vm) qK, qD⟩, va_recv hKc hPc (ci := 5) (q0 := 0) rfl rfl, fun U hU hW => ⟨rfl, by rw [hU], zz_rw hS hFc hU hW hZ, by rw [hU]; exact hPc, va_K.moved hW.alike hKc, hDc.weaken (fun _ _ _ _ => trivial)⟩⟩ rfl rfl hl.1 rfl (lv_room (Nat.le_of_ble_eq_true rfl)) d_M_reads_162 ⟨(Nat.le_of_ble_eq_true rfl), (Nat.le_of_ble_eq_true rfl)⟩) hS (fun q _ h => hFc q h) hFc (fun u t H1 locs ht hvm hw_30 hB hz1 hk1 hS => ?_)
                        generalize hg_x_31 : g_Mg_pass v_sz a f_sa = x_31 at hw_30 hB hg_rd1
                        rw [bv_eq] at hg_rd1
                        obtain ⟨hP1, hK1, hD1⟩ := hB
                        rw [ht] at hP1
                        have hK1 := va_K.moved hvm.symm hK1
                        obtain ⟨hP, hD⟩ := va_join (wr := [(a_ru, .inl (k_ru, 410, .inl R))]) (w1 := [(a_m, .inr (5, [.int v_th, .ref a_sa, .int v_sz, .int x_31, .int wr, .ref a_ru, .ref a_me, .ref a_le, .int v_n, .ref a_cl, .ref a_te, .ref a_ki, .ref a_ty, .ref a_bl, .ref a_ex, .ref a_lo, .int v_nl, .ref a_ho, .ref a_fi, .int v_nf, .ref a_cz, .int v_nc])), (a_sa, .inl (k_sa, 120, .inl f_sa))]) hP hD [0, 1] [2] rfl rfl (by decide) (by decide) hk1 hFc hP1 hD1
                        replace hK := (hK.sub (tys' := [(k_ru, .int)]) [1] rfl).app hK1
                        generalize H1 = H at hP hS ⊢
                        replace hP := hP.sub (ws' := [(a_m, .inr (5, [.int v_th, .ref a_sa, .int v_sz, .int x_31, .int wr, .ref a_ru, .ref a_me, .ref a_le, .int v_n, .ref a_cl, .ref a_te, .ref a_ki, .ref a_ty, .ref a_bl, .ref a_ex, .ref a_lo, .int v_nl, .ref a_ho, .ref a_fi, .int v_nf, .ref a_cz, .int v_nc])), (a_sa, .inl (k_sa, 120, .inl f_sa)), (a_ru, .inl (k_ru, 410, .inl R))]) [1, 2, 0] rfl
                        replace hD := hD.sub (ws' := [(a_m, .inr (5, [.int v_th, .ref a_sa, .int v_sz, .int x_31, .int wr, .ref a_ru, .ref a_me, .ref a_le, .int v_n, .ref a_cl, .ref a_te, .ref a_ki, .ref a_ty, .ref a_bl, .ref a_ex, .ref a_lo, .int v_nl, .ref a_ho, .ref a_fi, .int v_nf, .ref a_cz, .int v_nc])), (a_sa, .inl (k_sa, 120, .inl f_sa)), (a_ru, .inl (k_ru, 410, .inl R))]) [1, 2, 0] (by decide) rfl
                        replace hK := hK.sub (tys' := [(k_sa, .byte), (k_ru, .int)]) [1, 0] rfl
                        refine lv_aload_n hx hb d_M_reads_165 rfl (lv_at hl 3 rfl) ?_
                        refine lv_iload_n hx hb d_M_reads_166 rfl (lv_at hl 1 rfl) ?_
                        have hPc := hP.sub (ws' := [(a_m, .inr (5, [.int v_th, .ref a_sa, .int v_sz, .int x_31, .int wr, .ref a_ru, .ref a_me, .ref a_le, .int v_n, .ref a_cl, .ref a_te, .ref a_ki, .ref a_ty, .ref a_bl, .ref a_ex, .ref a_lo, .int v_nl, .ref a_ho, .ref a_fi, .int v_nf, .ref a_cz, .int v_nc])), (a_sa, .inl (k_sa, 120, .inl f_sa)), (a_ru, .inl (k_ru, 410, .inl R))]) [0, 1, 2] rfl
                        have hKc := hK.sub (tys' := [(k_sa, .byte), (k_ru, .int)]) [0, 1] rfl
                        have hDc := hD.sub (ws' := [(a_m, .inr (5, [.int v_th, .ref a_sa, .int v_sz, .int x_31, .int wr, .ref a_ru, .ref a_me, .ref a_le, .int v_n, .ref a_cl, .ref a_te, .ref a_ki, .ref a_ty, .ref a_bl, .ref a_ex, .ref a_lo, .int v_nl, .ref a_ho, .ref a_fi, .int v_nf, .ref a_cz, .int v_nc])), (a_sa, .inl (k_sa, 120, .inl f_sa)), (a_ru, .inl (k_ru, 410, .inl R))]) [0, 1, 2] (by decide) rfl
                        have hFc := va_free (wc := [(a_m, .inr (5, [.int v_th, .ref a_sa, .int v_sz, .int x_31, .int wr, .ref a_ru, .ref a_me, .ref a_le, .int v_n, .ref a_cl, .ref a_te, .ref a_ki, .ref a_ty, .ref a_bl, .ref a_ex, .ref a_lo, .int v_nl, .ref a_ho, .ref a_fi, .int v_nf, .ref a_cz, .int v_nc])), (a_sa, .inl (k_sa, 120, .inl f_sa)), (a_ru, .inl (k_ru, 410, .inl R))]) hD hS hA [0, 1, 2] rfl
                        refine va_calli (va_runV (As := [.int (g_Mg_step (g_Mg_word v_sz a f_sa))]) (rest := []) ⟨hx, hb, hml, hown, hts⟩ (c_Mg_one l dC dI adK adV (a_m := a_m) (p0 := g_Mg_step (g_Mg_word v_sz a f_sa)) (v_th := v_th) (a_sa := a_sa) (v_sz := v_sz) (v_at := x_31) (v_wr := wr) (a_ru := a_ru) (a_me := a_me) (a_le := a_le) (v_n := v_n) (a_cl := a_cl) (a_te := a_te) (a_ki := a_ki) (a_ty := a_ty) (a_bl := a_bl) (a_ex := a_ex) (a_lo := a_lo) (v_nl := v_nl) (a_ho := a_ho) (a_fi := a_fi) (v_nf := v_nf) (a_cz := a_cz) (v_nc := v_nc) (k_sa := k_sa) (f_sa := f_sa) (k_ru := k_ru) (f_ru := R) (sz := H.size) hsz (hg_x_31 ▸ pass_at hsz ha) hn) (cwV 1 hts (gV tw_716 tw_718 tw_31 tw_46 tw_719) rfl rfl rfl (by decide +kernel) ⟨(Nat.le_of_ble_eq_true rfl), (Nat.le_of_ble_eq_true rfl)⟩) ⟨fun a U g mk q => by obtain ⟨q0, q1, qZ, qP, qK, qD⟩ := q; exact ⟨q0, q1, zz_call qZ, qP, va_K.moved (u := U) (U := U.calling g mk a) (Vm.Alike.refl U.vm) qK, qD⟩, va_recv hKc hPc (ci := 5) (q0 := 0) rfl rfl, fun U hU hW => ⟨rfl, by rw [hU], zz_rw hS hFc hU hW hZ, by rw [hU]; exact hPc, va_K.moved hW.alike hKc, hDc.weaken (fun _ _ _ _ => trivial)⟩⟩ rfl rfl hl.1 rfl (lv_room (Nat.le_of_ble_eq_true rfl)) d_M_reads_167 ⟨(Nat.le_of_ble_eq_true rfl), (Nat.le_of_ble_eq_true rfl)⟩) hS (fun q _ h => hFc q h) hFc (fun r_32 u t H1 locs ht hvm hw_33 hB hz1 hk1 hS => ?_)
                        generalize hg_x_34 : g_Mg_one (g_Mg_step (g_Mg_word v_sz a f_sa)) v_sz x_31 wr v_n f_sa R = x_34 at hw_33 hB hg_rd1
                        rw [bv_eq] at hg_rd1
                        obtain ⟨hP1, hK1, hD1⟩ := hB
                        rw [ht] at hP1
                        have hK1 := va_K.moved hvm.symm hK1
                        obtain rfl : r_32 = x_34.1 := hw_33
                        obtain ⟨hP, hD⟩ := va_join (wr := []) (w1 := [(a_m, .inr (5, [.int v_th, .ref a_sa, .int v_sz, .int x_34.2.1, .int x_34.2.2.1, .ref a_ru, .ref a_me, .ref a_le, .int v_n, .ref a_cl, .ref a_te, .ref a_ki, .ref a_ty, .ref a_bl, .ref a_ex, .ref a_lo, .int v_nl, .ref a_ho, .ref a_fi, .int v_nf, .ref a_cz, .int v_nc])), (a_sa, .inl (k_sa, 120, .inl f_sa)), (a_ru, .inl (k_ru, 410, .inl x_34.2.2.2))]) hP hD [0, 1, 2] [] rfl rfl (by decide) (by decide) hk1 hFc hP1 hD1
                        replace hK := (hK.sub (tys' := []) [] rfl).app hK1
                        generalize H1 = H at hP hS ⊢
                        replace hP := hP.sub (ws' := [(a_m, .inr (5, [.int v_th, .ref a_sa, .int v_sz, .int x_34.2.1, .int x_34.2.2.1, .ref a_ru, .ref a_me, .ref a_le, .int v_n, .ref a_cl, .ref a_te, .ref a_ki, .ref a_ty, .ref a_bl, .ref a_ex, .ref a_lo, .int v_nl, .ref a_ho, .ref a_fi, .int v_nf, .ref a_cz, .int v_nc])), (a_sa, .inl (k_sa, 120, .inl f_sa)), (a_ru, .inl (k_ru, 410, .inl x_34.2.2.2))]) [0, 1, 2] rfl
                        replace hD := hD.sub (ws' := [(a_m, .inr (5, [.int v_th, .ref a_sa, .int v_sz, .int x_34.2.1, .int x_34.2.2.1, .ref a_ru, .ref a_me, .ref a_le, .int v_n, .ref a_cl, .ref a_te, .ref a_ki, .ref a_ty, .ref a_bl, .ref a_ex, .ref a_lo, .int v_nl, .ref a_ho, .ref a_fi, .int v_nf, .ref a_cz, .int v_nc])), (a_sa, .inl (k_sa, 120, .inl f_sa)), (a_ru, .inl (k_ru, 410, .inl x_34.2.2.2))]) [0, 1, 2] (by decide) rfl
                        replace hK := hK.sub (tys' := [(k_sa, .byte), (k_ru, .int)]) [0, 1] rfl
                        refine lv_if_ne (tgt := 175) hx hb d_M_reads_170 (by decide) (fun c_35 => ?_) (fun c_35 => ?_)
                        · rw [if_neg c_35] at hg_rd1
                          refine lv_iload_n hx hb d_M_reads_175 rfl (lv_at hl 1 rfl) ?_
                          refine lv_istore_n (lv' := [(1, .int (g_Mg_step (g_Mg_word v_sz a f_sa))), (3, .int 1), (2, .int (g_Mg_step (g_Mg_word v_sz a f_sa))), (0, .ref a_m)]) hx hb d_M_reads_176 rfl hl (by decide) rfl (fun ls hl => ?_)
                          refine lv_goto (tgt := 56) hx hb d_M_reads_177 (by decide) ?_
                          exact ih_rd1 _ _ _ _ _ _ _ ⟨hP, hD, hS, lv_sub hl [0, 3] rfl, ((hg_x_34 ▸ one_at hsz (hg_x_31 ▸ pass_at hsz ha))), (step_le _), (li_mt hla c_10 (step_le _) hm_rd1), hg_rd1⟩
                        · rw [if_pos c_35] at hg_rd1
                          subst hg_rd1
                          dsimp only at hE
                          rw [if_neg (by decide)] at hE
                          rw [if_neg (by decide)] at hE
                          rw [if_neg (by decide)] at hE
                          refine lv_iconst (v := 0) hx hb d_M_reads_173 (by decide) ?_
                          have hP9 := hP.sub (ws' := [(a_m, .inr (5, [.int v_th, .ref a_sa, .int v_sz, .int x_34.2.1, .int x_34.2.2.1, .ref a_ru, .ref a_me, .ref a_le, .int v_n, .ref a_cl, .ref a_te, .ref a_ki, .ref a_ty, .ref a_bl, .ref a_ex, .ref a_lo, .int v_nl, .ref a_ho, .ref a_fi, .int v_nf, .ref a_cz, .int v_nc])), (a_sa, .inl (k_sa, 120, .inl f_sa)), (a_ru, .inl (k_ru, 410, .inl x_34.2.2.2))]) [0, 1, 2] rfl
                          have hD9 := hD.sub (ws' := [(a_m, .inr (5, [.int v_th, .ref a_sa, .int v_sz, .int x_34.2.1, .int x_34.2.2.1, .ref a_ru, .ref a_me, .ref a_le, .int v_n, .ref a_cl, .ref a_te, .ref a_ki, .ref a_ty, .ref a_bl, .ref a_ex, .ref a_lo, .int v_nl, .ref a_ho, .ref a_fi, .int v_nf, .ref a_cz, .int v_nc])), (a_sa, .inl (k_sa, 120, .inl f_sa)), (a_ru, .inl (k_ru, 410, .inl x_34.2.2.2))]) [0, 1, 2] (by decide) rfl
                          have hK9 := hK.sub (tys' := [(k_sa, .byte), (k_ru, .int)]) [0, 1] rfl
                          exact W.zret (v := 0) hx hb hr rfl (fun t ht hW => ⟨⟨0, (), rfl, by rw [← hz, hE], by rw [ht, ← hz, hE]; exact hP9, va_K.moved hW.alike hK9, by rw [← hz, hE]; exact hD9⟩, hS.F ht⟩) hS.2.2 d_M_reads_174
                      · exact absurd c_29 (by decide)
                · rw [if_neg c_18] at hg_rd1
                  refine lv_iload_n hx hb d_M_reads_117 rfl (lv_at hl 1 rfl) ?_
                  refine lv_bipush (v := 6) hx hb d_M_reads_118 (by decide) ?_
                  refine lv_icmp_ne (tgt := 132) hx hb d_M_reads_120 (by decide) (fun c_36 => ?_) (fun c_36 => ?_)
                  · rw [if_neg c_36] at hg_rd1
                    refine lv_iload_n hx hb d_M_reads_132 rfl (lv_at hl 0 rfl) ?_
                    refine lv_bipush (v := 6) hx hb d_M_reads_133 (by decide) ?_
                    refine lv_icmp_le (tgt := 142) hx hb d_M_reads_135 (by decide) (fun c_37 => ?_) (fun c_37 => ?_)
                    · rw [if_pos c_37] at hg_rd1
                      refine lv_iconst (v := 0) hx hb d_M_reads_142 (by decide) ?_
                      refine lv_istore_n (lv' := [(3, .int 0), (2, .int (g_Mg_step (g_Mg_word v_sz a f_sa))), (1, .int la), (0, .ref a_m)]) hx hb d_M_reads_143 rfl hl (by decide) rfl (fun ls hl => ?_)
                      refine lv_iload_n hx hb d_M_reads_144 rfl (lv_at hl 1 rfl) ?_
                      refine lv_if_eq (tgt := 152) hx hb d_M_reads_145 (by decide) (fun c_38 => ?_) (fun c_38 => ?_)
                      · subst hg_rd1
                        dsimp only at hE
                        rw [if_neg (by decide)] at hE
                        rw [if_neg (by decide)] at hE
                        rw [if_pos rfl] at hE
                        refine lv_aload_n hx hb d_M_reads_152 rfl (lv_at hl 3 rfl) ?_
                        refine lv_aload_n hx hb d_M_reads_153 rfl (lv_at hl 3 rfl) ?_
                        refine va_get (D := (dC, dI)) (ci := 5) (v := .int a) (C := "LoanRulesModel") (T := Fz_M) (N := 22) hx hb hts it_M hown hK hP 0 rfl rfl 3 (by decide) (hts _ tw_604) (fun _ h9 => h9) rfl d_M_reads_154 ?_
                        have hPc := hP.sub (ws' := [(a_m, .inr (5, [.int v_th, .ref a_sa, .int v_sz, .int a, .int wr, .ref a_ru, .ref a_me, .ref a_le, .int v_n, .ref a_cl, .ref a_te, .ref a_ki, .ref a_ty, .ref a_bl, .ref a_ex, .ref a_lo, .int v_nl, .ref a_ho, .ref a_fi, .int v_nf, .ref a_cz, .int v_nc]))]) [0] rfl
                        have hKc := hK.sub (tys' := []) [] rfl
                        have hDc := hD.sub (ws' := [(a_m, .inr (5, [.int v_th, .ref a_sa, .int v_sz, .int a, .int wr, .ref a_ru, .ref a_me, .ref a_le, .int v_n, .ref a_cl, .ref a_te, .ref a_ki, .ref a_ty, .ref a_bl, .ref a_ex, .ref a_lo, .int v_nl, .ref a_ho, .ref a_fi, .int v_nf, .ref a_cz, .int v_nc]))]) [0] (by decide) rfl
                        have hFc := va_free (wc := [(a_m, .inr (5, [.int v_th, .ref a_sa, .int v_sz, .int a, .int wr, .ref a_ru, .ref a_me, .ref a_le, .int v_n, .ref a_cl, .ref a_te, .ref a_ki, .ref a_ty, .ref a_bl, .ref a_ex, .ref a_lo, .int v_nl, .ref a_ho, .ref a_fi, .int v_nf, .ref a_cz, .int v_nc]))]) hD hS hA [0] rfl
                        refine va_calli (va_runV (As := [.int a]) (rest := []) ⟨hx, hb, hml, hown, hts⟩ (c_Mg_bad l dC dI adK adV (a_m := a_m) (p0 := a) (v_th := v_th) (a_sa := a_sa) (v_sz := v_sz) (v_at := a) (v_wr := wr) (a_ru := a_ru) (a_me := a_me) (a_le := a_le) (v_n := v_n) (a_cl := a_cl) (a_te := a_te) (a_ki := a_ki) (a_ty := a_ty) (a_bl := a_bl) (a_ex := a_ex) (a_lo := a_lo) (v_nl := v_nl) (a_ho := a_ho) (a_fi := a_fi) (v_nf := v_nf) (a_cz := a_cz) (v_nc := v_nc) (sz := H.size)) (cwV 1 hts (gV tw_688 tw_690 tw_28 tw_46 tw_691) rfl rfl rfl (by decide +kernel) ⟨(Nat.le_of_ble_eq_true rfl), (Nat.le_of_ble_eq_true rfl)⟩) ⟨fun a U g mk q => by obtain ⟨q0, q1, qZ, qP, qK, qD⟩ := q; exact ⟨q0, q1, zz_call qZ, qP, va_K.moved (u := U) (U := U.calling g mk a) (Vm.Alike.refl U.vm) qK, qD⟩, va_recv hKc hPc (ci := 5) (q0 := 0) rfl rfl, fun U hU hW => ⟨rfl, by rw [hU], zz_rw hS hFc hU hW hZ, by rw [hU]; exact hPc, va_K.moved hW.alike hKc, hDc.weaken (fun _ _ _ _ => trivial)⟩⟩ rfl rfl hl.1 rfl (lv_room (Nat.le_of_ble_eq_true rfl)) d_M_reads_157 ⟨(Nat.le_of_ble_eq_true rfl), (Nat.le_of_ble_eq_true rfl)⟩) hS (fun q _ h => hFc q h) hFc (fun r_39 u t H1 locs ht hvm hw_40 hB hz1 hk1 hS => ?_)
                        obtain ⟨hP1, hK1, hD1⟩ := hB
                        rw [ht] at hP1
                        have hK1 := va_K.moved hvm.symm hK1
                        obtain rfl : r_39 = 0 := hw_40
                        obtain ⟨hP, hD⟩ := va_join (wr := [(a_sa, .inl (k_sa, 120, .inl f_sa)), (a_ru, .inl (k_ru, 410, .inl R))]) (w1 := [(a_m, .inr (5, [.int v_th, .ref a_sa, .int v_sz, .int a, .int a, .ref a_ru, .ref a_me, .ref a_le, .int v_n, .ref a_cl, .ref a_te, .ref a_ki, .ref a_ty, .ref a_bl, .ref a_ex, .ref a_lo, .int v_nl, .ref a_ho, .ref a_fi, .int v_nf, .ref a_cz, .int v_nc]))]) hP hD [0] [1, 2] rfl rfl (by decide) (by decide) hk1 hFc hP1 hD1
                        replace hK := (hK.sub (tys' := [(k_sa, .byte), (k_ru, .int)]) [0, 1] rfl).app hK1
                        generalize H1 = H at hP hS ⊢
                        replace hP := hP.sub (ws' := [(a_m, .inr (5, [.int v_th, .ref a_sa, .int v_sz, .int a, .int a, .ref a_ru, .ref a_me, .ref a_le, .int v_n, .ref a_cl, .ref a_te, .ref a_ki, .ref a_ty, .ref a_bl, .ref a_ex, .ref a_lo, .int v_nl, .ref a_ho, .ref a_fi, .int v_nf, .ref a_cz, .int v_nc])), (a_sa, .inl (k_sa, 120, .inl f_sa)), (a_ru, .inl (k_ru, 410, .inl R))]) [2, 0, 1] rfl
                        replace hD := hD.sub (ws' := [(a_m, .inr (5, [.int v_th, .ref a_sa, .int v_sz, .int a, .int a, .ref a_ru, .ref a_me, .ref a_le, .int v_n, .ref a_cl, .ref a_te, .ref a_ki, .ref a_ty, .ref a_bl, .ref a_ex, .ref a_lo, .int v_nl, .ref a_ho, .ref a_fi, .int v_nf, .ref a_cz, .int v_nc])), (a_sa, .inl (k_sa, 120, .inl f_sa)), (a_ru, .inl (k_ru, 410, .inl R))]) [2, 0, 1] (by decide) rfl
                        replace hK := hK.sub (tys' := [(k_sa, .byte), (k_ru, .int)]) [0, 1] rfl
                        have hP9 := hP.sub (ws' := [(a_m, .inr (5, [.int v_th, .ref a_sa, .int v_sz, .int a, .int a, .ref a_ru, .ref a_me, .ref a_le, .int v_n, .ref a_cl, .ref a_te, .ref a_ki, .ref a_ty, .ref a_bl, .ref a_ex, .ref a_lo, .int v_nl, .ref a_ho, .ref a_fi, .int v_nf, .ref a_cz, .int v_nc])), (a_sa, .inl (k_sa, 120, .inl f_sa)), (a_ru, .inl (k_ru, 410, .inl R))]) [0, 1, 2] rfl
                        have hD9 := hD.sub (ws' := [(a_m, .inr (5, [.int v_th, .ref a_sa, .int v_sz, .int a, .int a, .ref a_ru, .ref a_me, .ref a_le, .int v_n, .ref a_cl, .ref a_te, .ref a_ki, .ref a_ty, .ref a_bl, .ref a_ex, .ref a_lo, .int v_nl, .ref a_ho, .ref a_fi, .int v_nf, .ref a_cz, .int v_nc])), (a_sa, .inl (k_sa, 120, .inl f_sa)), (a_ru, .inl (k_ru, 410, .inl R))]) [0, 1, 2] (by decide) rfl
                        have hK9 := hK.sub (tys' := [(k_sa, .byte), (k_ru, .int)]) [0, 1] rfl
                        exact W.zret (v := 0) hx hb hr rfl (fun t ht hW => ⟨⟨0, (), rfl, by rw [← hz, hE], by rw [ht, ← hz, hE]; exact hP9, va_K.moved hW.alike hK9, by rw [← hz, hE]; exact hD9⟩, hS.F ht⟩) hS.2.2 d_M_reads_160
                      · refine lv_iload_n hx hb d_M_reads_148 rfl (lv_at hl 0 rfl) ?_
                        refine lv_if_ne (tgt := 161) hx hb d_M_reads_149 (by decide) (fun c_41 => ?_) (fun c_41 => ?_)
                        · exact absurd (by decide) c_41
                        · subst hg_rd1
                          dsimp only at hE
                          rw [if_neg (by decide)] at hE
                          rw [if_neg (by decide)] at hE
                          rw [if_pos rfl] at hE
                          refine lv_aload_n hx hb d_M_reads_152 rfl (lv_at hl 3 rfl) ?_
                          refine lv_aload_n hx hb d_M_reads_153 rfl (lv_at hl 3 rfl) ?_
                          refine va_get (D := (dC, dI)) (ci := 5) (v := .int a) (C := "LoanRulesModel") (T := Fz_M) (N := 22) hx hb hts it_M hown hK hP 0 rfl rfl 3 (by decide) (hts _ tw_604) (fun _ h9 => h9) rfl d_M_reads_154 ?_
                          have hPc := hP.sub (ws' := [(a_m, .inr (5, [.int v_th, .ref a_sa, .int v_sz, .int a, .int wr, .ref a_ru, .ref a_me, .ref a_le, .int v_n, .ref a_cl, .ref a_te, .ref a_ki, .ref a_ty, .ref a_bl, .ref a_ex, .ref a_lo, .int v_nl, .ref a_ho, .ref a_fi, .int v_nf, .ref a_cz, .int v_nc]))]) [0] rfl
                          have hKc := hK.sub (tys' := []) [] rfl
                          have hDc := hD.sub (ws' := [(a_m, .inr (5, [.int v_th, .ref a_sa, .int v_sz, .int a, .int wr, .ref a_ru, .ref a_me, .ref a_le, .int v_n, .ref a_cl, .ref a_te, .ref a_ki, .ref a_ty, .ref a_bl, .ref a_ex, .ref a_lo, .int v_nl, .ref a_ho, .ref a_fi, .int v_nf, .ref a_cz, .int v_nc]))]) [0] (by decide) rfl
                          have hFc := va_free (wc := [(a_m, .inr (5, [.int v_th, .ref a_sa, .int v_sz, .int a, .int wr, .ref a_ru, .ref a_me, .ref a_le, .int v_n, .ref a_cl, .ref a_te, .ref a_ki, .ref a_ty, .ref a_bl, .ref a_ex, .ref a_lo, .int v_nl, .ref a_ho, .ref a_fi, .int v_nf, .ref a_cz, .int v_nc]))]) hD hS hA [0] rfl
                          refine va_calli (va_runV (As := [.int a]) (rest := []) ⟨hx, hb, hml, hown, hts⟩ (c_Mg_bad l dC dI adK adV (a_m := a_m) (p0 := a) (v_th := v_th) (a_sa := a_sa) (v_sz := v_sz) (v_at := a) (v_wr := wr) (a_ru := a_ru) (a_me := a_me) (a_le := a_le) (v_n := v_n) (a_cl := a_cl) (a_te := a_te) (a_ki := a_ki) (a_ty := a_ty) (a_bl := a_bl) (a_ex := a_ex) (a_lo := a_lo) (v_nl := v_nl) (a_ho := a_ho) (a_fi := a_fi) (v_nf := v_nf) (a_cz := a_cz) (v_nc := v_nc) (sz := H.size)) (cwV 1 hts (gV tw_688 tw_690 tw_28 tw_46 tw_691) rfl rfl rfl (by decide +kernel) ⟨(Nat.le_of_ble_eq_true rfl), (Nat.le_of_ble_eq_true rfl)⟩) ⟨fun a U g mk q => by obtain ⟨q0, q1, qZ, qP, qK, qD⟩ := q; exact ⟨q0, q1, zz_call qZ, qP, va_K.moved (u := U) (U := U.calling g mk a) (Vm.Alike.refl U.vm) qK, qD⟩, va_recv hKc hPc (ci := 5) (q0 := 0) rfl rfl, fun U hU hW => ⟨rfl, by rw [hU], zz_rw hS hFc hU hW hZ, by rw [hU]; exact hPc, va_K.moved hW.alike hKc, hDc.weaken (fun _ _ _ _ => trivial)⟩⟩ rfl rfl hl.1 rfl (lv_room (Nat.le_of_ble_eq_true rfl)) d_M_reads_157 ⟨(Nat.le_of_ble_eq_true rfl), (Nat.le_of_ble_eq_true rfl)⟩) hS (fun q _ h => hFc q h) hFc (fun r_42 u t H1 locs ht hvm hw_43 hB hz1 hk1 hS => ?_)
                          obtain ⟨hP1, hK1, hD1⟩ := hB
                          rw [ht] at hP1
                          have hK1 := va_K.moved hvm.symm hK1
                          obtain rfl : r_42 = 0 := hw_43
                          obtain ⟨hP, hD⟩ := va_join (wr := [(a_sa, .inl (k_sa, 120, .inl f_sa)), (a_ru, .inl (k_ru, 410, .inl R))]) (w1 := [(a_m, .inr (5, [.int v_th, .ref a_sa, .int v_sz, .int a, .int a, .ref a_ru, .ref a_me, .ref a_le, .int v_n, .ref a_cl, .ref a_te, .ref a_ki, .ref a_ty, .ref a_bl, .ref a_ex, .ref a_lo, .int v_nl, .ref a_ho, .ref a_fi, .int v_nf, .ref a_cz, .int v_nc]))]) hP hD [0] [1, 2] rfl rfl (by decide) (by decide) hk1 hFc hP1 hD1
                          replace hK := (hK.sub (tys' := [(k_sa, .byte), (k_ru, .int)]) [0, 1] rfl).app hK1
                          generalize H1 = H at hP hS ⊢
                          replace hP := hP.sub (ws' := [(a_m, .inr (5, [.int v_th, .ref a_sa, .int v_sz, .int a, .int a, .ref a_ru, .ref a_me, .ref a_le, .int v_n, .ref a_cl, .ref a_te, .ref a_ki, .ref a_ty, .ref a_bl, .ref a_ex, .ref a_lo, .int v_nl, .ref a_ho, .ref a_fi, .int v_nf, .ref a_cz, .int v_nc])), (a_sa, .inl (k_sa, 120, .inl f_sa)), (a_ru, .inl (k_ru, 410, .inl R))]) [2, 0, 1] rfl
                          replace hD := hD.sub (ws' := [(a_m, .inr (5, [.int v_th, .ref a_sa, .int v_sz, .int a, .int a, .ref a_ru, .ref a_me, .ref a_le, .int v_n, .ref a_cl, .ref a_te, .ref a_ki, .ref a_ty, .ref a_bl, .ref a_ex, .ref a_lo, .int v_nl, .ref a_ho, .ref a_fi, .int v_nf, .ref a_cz, .int v_nc])), (a_sa, .inl (k_sa, 120, .inl f_sa)), (a_ru, .inl (k_ru, 410, .inl R))]) [2, 0, 1] (by decide) rfl
                          replace hK := hK.sub (tys' := [(k_sa, .byte), (k_ru, .int)]) [0, 1] rfl
                          have hP9 := hP.sub (ws' := [(a_m, .inr (5, [.int v_th, .ref a_sa, .int v_sz, .int a, .int a, .ref a_ru, .ref a_me, .ref a_le, .int v_n, .ref a_cl, .ref a_te, .ref a_ki, .ref a_ty, .ref a_bl, .ref a_ex, .ref a_lo, .int v_nl, .ref a_ho, .ref a_fi, .int v_nf, .ref a_cz, .int v_nc])), (a_sa, .inl (k_sa, 120, .inl f_sa)), (a_ru, .inl (k_ru, 410, .inl R))]) [0, 1, 2] rfl
                          have hD9 := hD.sub (ws' := [(a_m, .inr (5, [.int v_th, .ref a_sa, .int v_sz, .int a, .int a, .ref a_ru, .ref a_me, .ref a_le, .int v_n, .ref a_cl, .ref a_te, .ref a_ki, .ref a_ty, .ref a_bl, .ref a_ex, .ref a_lo, .int v_nl, .ref a_ho, .ref a_fi, .int v_nf, .ref a_cz, .int v_nc])), (a_sa, .inl (k_sa, 120, .inl f_sa)), (a_ru, .inl (k_ru, 410, .inl R))]) [0, 1, 2] (by decide) rfl
                          have hK9 := hK.sub (tys' := [(k_sa, .byte), (k_ru, .int)]) [0, 1] rfl
                          exact W.zret (v := 0) hx hb hr rfl (fun t ht hW => ⟨⟨0, (), rfl, by rw [← hz, hE], by rw [ht, ← hz, hE]; exact hP9, va_K.moved hW.alike hK9, by rw [← hz, hE]; exact hD9⟩, hS.F ht⟩) hS.2.2 d_M_reads_160
                    · rw [if_neg c_37] at hg_rd1
                      refine lv_iconst (v := 1) hx hb d_M_reads_138 (by decide) ?_
                      refine lv_goto (tgt := 143) hx hb d_M_reads_139 (by decide) ?_
                      refine lv_istore_n (lv' := [(3, .int 1), (2, .int (g_Mg_step (g_Mg_word v_sz a f_sa))), (1, .int la), (0, .ref a_m)]) hx hb d_M_reads_143 rfl hl (by decide) rfl (fun ls hl => ?_)
                      refine lv_iload_n hx hb d_M_reads_144 rfl (lv_at hl 1 rfl) ?_
                      refine lv_if_eq (tgt := 152) hx hb d_M_reads_145 (by decide) (fun c_44 => ?_) (fun c_44 => ?_)
                      · rw [if_pos c_44] at hg_rd1
                        subst hg_rd1
                        dsimp only at hE
                        rw [if_neg (by decide)] at hE
                        rw [if_neg (by decide)] at hE
                        rw [if_pos rfl] at hE
                        refine lv_aload_n hx hb d_M_reads_152 rfl (lv_at hl 3 rfl) ?_
                        refine lv_aload_n hx hb d_M_reads_153 rfl (lv_at hl 3 rfl) ?_
                        refine va_get (D := (dC, dI)) (ci := 5) (v := .int a) (C := "LoanRulesModel") (T := Fz_M) (N := 22) hx hb hts it_M hown hK hP 0 rfl rfl 3 (by decide) (hts _ tw_604) (fun _ h9 => h9) rfl d_M_reads_154 ?_
                        have hPc := hP.sub (ws' := [(a_m, .inr (5, [.int v_th, .ref a_sa, .int v_sz, .int a, .int wr, .ref a_ru, .ref a_me, .ref a_le, .int v_n, .ref a_cl, .ref a_te, .ref a_ki, .ref a_ty, .ref a_bl, .ref a_ex, .ref a_lo, .int v_nl, .ref a_ho, .ref a_fi, .int v_nf, .ref a_cz, .int v_nc]))]) [0] rfl
                        have hKc := hK.sub (tys' := []) [] rfl
                        have hDc := hD.sub (ws' := [(a_m, .inr (5, [.int v_th, .ref a_sa, .int v_sz, .int a, .int wr, .ref a_ru, .ref a_me, .ref a_le, .int v_n, .ref a_cl, .ref a_te, .ref a_ki, .ref a_ty, .ref a_bl, .ref a_ex, .ref a_lo, .int v_nl, .ref a_ho, .ref a_fi, .int v_nf, .ref a_cz, .int v_nc]))]) [0] (by decide) rfl
                        have hFc := va_free (wc := [(a_m, .inr (5, [.int v_th, .ref a_sa, .int v_sz, .int a, .int wr, .ref a_ru, .ref a_me, .ref a_le, .int v_n, .ref a_cl, .ref a_te, .ref a_ki, .ref a_ty, .ref a_bl, .ref a_ex, .ref a_lo, .int v_nl, .ref a_ho, .ref a_fi, .int v_nf, .ref a_cz, .int v_nc]))]) hD hS hA [0] rfl
                        refine va_calli (va_runV (As := [.int a]) (rest := []) ⟨hx, hb, hml, hown, hts⟩ (c_Mg_bad l dC dI adK adV (a_m := a_m) (p0 := a) (v_th := v_th) (a_sa := a_sa) (v_sz := v_sz) (v_at := a) (v_wr := wr) (a_ru := a_ru) (a_me := a_me) (a_le := a_le) (v_n := v_n) (a_cl := a_cl) (a_te := a_te) (a_ki := a_ki) (a_ty := a_ty) (a_bl := a_bl) (a_ex := a_ex) (a_lo := a_lo) (v_nl := v_nl) (a_ho := a_ho) (a_fi := a_fi) (v_nf := v_nf) (a_cz := a_cz) (v_nc := v_nc) (sz := H.size)) (cwV 1 hts (gV tw_688 tw_690 tw_28 tw_46 tw_691) rfl rfl rfl (by decide +kernel) ⟨(Nat.le_of_ble_eq_true rfl), (Nat.le_of_ble_eq_true rfl)⟩) ⟨fun a U g mk q => by obtain ⟨q0, q1, qZ, qP, qK, qD⟩ := q; exact ⟨q0, q1, zz_call qZ, qP, va_K.moved (u := U) (U := U.calling g mk a) (Vm.Alike.refl U.vm) qK, qD⟩, va_recv hKc hPc (ci := 5) (q0 := 0) rfl rfl, fun U hU hW => ⟨rfl, by rw [hU], zz_rw hS hFc hU hW hZ, by rw [hU]; exact hPc, va_K.moved hW.alike hKc, hDc.weaken (fun _ _ _ _ => trivial)⟩⟩ rfl rfl hl.1 rfl (lv_room (Nat.le_of_ble_eq_true rfl)) d_M_reads_157 ⟨(Nat.le_of_ble_eq_true rfl), (Nat.le_of_ble_eq_true rfl)⟩) hS (fun q _ h => hFc q h) hFc (fun r_45 u t H1 locs ht hvm hw_46 hB hz1 hk1 hS => ?_)
                        obtain ⟨hP1, hK1, hD1⟩ := hB
                        rw [ht] at hP1
                        have hK1 := va_K.moved hvm.symm hK1
                        obtain rfl : r_45 = 0 := hw_46
                        obtain ⟨hP, hD⟩ := va_join (wr := [(a_sa, .inl (k_sa, 120, .inl f_sa)), (a_ru, .inl (k_ru, 410, .inl R))]) (w1 := [(a_m, .inr (5, [.int v_th, .ref a_sa, .int v_sz, .int a, .int a, .ref a_ru, .ref a_me, .ref a_le, .int v_n, .ref a_cl, .ref a_te, .ref a_ki, .ref a_ty, .ref a_bl, .ref a_ex, .ref a_lo, .int v_nl, .ref a_ho, .ref a_fi, .int v_nf, .ref a_cz, .int v_nc]))]) hP hD [0] [1, 2] rfl rfl (by decide) (by decide) hk1 hFc hP1 hD1
                        replace hK := (hK.sub (tys' := [(k_sa, .byte), (k_ru, .int)]) [0, 1] rfl).app hK1
                        generalize H1 = H at hP hS ⊢
                        replace hP := hP.sub (ws' := [(a_m, .inr (5, [.int v_th, .ref a_sa, .int v_sz, .int a, .int a, .ref a_ru, .ref a_me, .ref a_le, .int v_n, .ref a_cl, .ref a_te, .ref a_ki, .ref a_ty, .ref a_bl, .ref a_ex, .ref a_lo, .int v_nl, .ref a_ho, .ref a_fi, .int v_nf, .ref a_cz, .int v_nc])), (a_sa, .inl (k_sa, 120, .inl f_sa)), (a_ru, .inl (k_ru, 410, .inl R))]) [2, 0, 1] rfl
                        replace hD := hD.sub (ws' := [(a_m, .inr (5, [.int v_th, .ref a_sa, .int v_sz, .int a, .int a, .ref a_ru, .ref a_me, .ref a_le, .int v_n, .ref a_cl, .ref a_te, .ref a_ki, .ref a_ty, .ref a_bl, .ref a_ex, .ref a_lo, .int v_nl, .ref a_ho, .ref a_fi, .int v_nf, .ref a_cz, .int v_nc])), (a_sa, .inl (k_sa, 120, .inl f_sa)), (a_ru, .inl (k_ru, 410, .inl R))]) [2, 0, 1] (by decide) rfl
                        replace hK := hK.sub (tys' := [(k_sa, .byte), (k_ru, .int)]) [0, 1] rfl
                        have hP9 := hP.sub (ws' := [(a_m, .inr (5, [.int v_th, .ref a_sa, .int v_sz, .int a, .int a, .ref a_ru, .ref a_me, .ref a_le, .int v_n, .ref a_cl, .ref a_te, .ref a_ki, .ref a_ty, .ref a_bl, .ref a_ex, .ref a_lo, .int v_nl, .ref a_ho, .ref a_fi, .int v_nf, .ref a_cz, .int v_nc])), (a_sa, .inl (k_sa, 120, .inl f_sa)), (a_ru, .inl (k_ru, 410, .inl R))]) [0, 1, 2] rfl
                        have hD9 := hD.sub (ws' := [(a_m, .inr (5, [.int v_th, .ref a_sa, .int v_sz, .int a, .int a, .ref a_ru, .ref a_me, .ref a_le, .int v_n, .ref a_cl, .ref a_te, .ref a_ki, .ref a_ty, .ref a_bl, .ref a_ex, .ref a_lo, .int v_nl, .ref a_ho, .ref a_fi, .int v_nf, .ref a_cz, .int v_nc])), (a_sa, .inl (k_sa, 120, .inl f_sa)), (a_ru, .inl (k_ru, 410, .inl R))]) [0, 1, 2] (by decide) rfl
                        have hK9 := hK.sub (tys' := [(k_sa, .byte), (k_ru, .int)]) [0, 1] rfl
                        exact W.zret (v := 0) hx hb hr rfl (fun t ht hW => ⟨⟨0, (), rfl, by rw [← hz, hE], by rw [ht, ← hz, hE]; exact hP9, va_K.moved hW.alike hK9, by rw [← hz, hE]; exact hD9⟩, hS.F ht⟩) hS.2.2 d_M_reads_160
                      · rw [if_neg c_44] at hg_rd1
                        refine lv_iload_n hx hb d_M_reads_148 rfl (lv_at hl 0 rfl) ?_
                        refine lv_if_ne (tgt := 161) hx hb d_M_reads_149 (by decide) (fun c_47 => ?_) (fun c_47 => ?_)
                        · refine lv_aload_n hx hb d_M_reads_161 rfl (lv_at hl 3 rfl) ?_
                          have hPc := hP.sub (ws' := [(a_m, .inr (5, [.int v_th, .ref a_sa, .int v_sz, .int a, .int wr, .ref a_ru, .ref a_me, .ref a_le, .int v_n, .ref a_cl, .ref a_te, .ref a_ki, .ref a_ty, .ref a_bl, .ref a_ex, .ref a_lo, .int v_nl, .ref a_ho, .ref a_fi, .int v_nf, .ref a_cz, .int v_nc])), (a_sa, .inl (k_sa, 120, .inl f_sa))]) [0, 1] rfl
                          have hKc := hK.sub (tys' := [(k_sa, .byte)]) [0] rfl
                          have hDc := hD.sub (ws' := [(a_m, .inr (5, [.int v_th, .ref a_sa, .int v_sz, .int a, .int wr, .ref a_ru, .ref a_me, .ref a_le, .int v_n, .ref a_cl, .ref a_te, .ref a_ki, .ref a_ty, .ref a_bl, .ref a_ex, .ref a_lo, .int v_nl, .ref a_ho, .ref a_fi, .int v_nf, .ref a_cz, .int v_nc])), (a_sa, .inl (k_sa, 120, .inl f_sa))]) [0, 1] (by decide) rfl
                          have hFc := va_free (wc := [(a_m, .inr (5, [.int v_th, .ref a_sa, .int v_sz, .int a, .int wr, .ref a_ru, .ref a_me, .ref a_le, .int v_n, .ref a_cl, .ref a_te, .ref a_ki, .ref a_ty, .ref a_bl, .ref a_ex, .ref a_lo, .int v_nl, .ref a_ho, .ref a_fi, .int v_nf, .ref a_cz, .int v_nc])), (a_sa, .inl (k_sa, 120, .inl f_sa))]) hD hS hA [0, 1] rfl
                          refine va_callv (va_runV (As := []) (rest := []) ⟨hx, hb, hml, hown, hts⟩ (c_Mg_pass l dC dI adK adV (a_m := a_m) (v_th := v_th) (a_sa := a_sa) (v_sz := v_sz) (v_at := a) (v_wr := wr) (a_ru := a_ru) (a_me := a_me) (a_le := a_le) (v_n := v_n) (a_cl := a_cl) (a_te := a_te) (a_ki := a_ki) (a_ty := a_ty) (a_bl := a_bl) (a_ex := a_ex) (a_lo := a_lo) (v_nl := v_nl) (a_ho := a_ho) (a_fi := a_fi) (v_nf := v_nf) (a_cz := a_cz) (v_nc := v_nc) (k_sa := k_sa) (f_sa := f_sa) (sz := H.size) hsz ha) (cwV 0 hts (gV tw_712 tw_714 tw_30 tw_46 tw_715) rfl rfl rfl (by decide +kernel) ⟨(Nat.le_of_ble_eq_true rfl), (Nat.le_of_ble_eq_true rfl)⟩) ⟨fun a U g mk q => by obtain ⟨q0, q1, qZ, qP, qK, qD⟩ := q; exact ⟨q0, q1, zz_call qZ, qP, va_K.moved (u := U) (U := U.calling g mk a) (Vm.Alike.refl U.vm) qK, qD⟩, va_recv hKc hPc (ci := 5) (q0 := 0) rfl rfl, fun U hU hW => ⟨rfl, by rw [hU], zz_rw hS hFc hU hW hZ, by rw [hU]; exact hPc, va_K.moved hW.alike hKc, hDc.weaken (fun _ _ _ _ => trivial)⟩⟩ rfl rfl hl.1 rfl (lv_room (Nat.le_of_ble_eq_true rfl)) d_M_reads_162 ⟨(Nat.le_of_ble_eq_true rfl), (Nat.le_of_ble_eq_true rfl)⟩) hS (fun q _ h => hFc q h) hFc (fun u t H1 locs ht hvm hw_48 hB hz1 hk1 hS => ?_)
                          generalize hg_x_49 : g_Mg_pass v_sz a f_sa = x_49 at hw_48 hB hg_rd1
                          rw [bv_eq] at hg_rd1
                          obtain ⟨hP1, hK1, hD1⟩ := hB
                          rw [ht] at hP1
                          have hK1 := va_K.moved hvm.symm hK1
                          obtain ⟨hP, hD⟩ := va_join (wr := [(a_ru, .inl (k_ru, 410, .inl R))]) (w1 := [(a_m, .inr (5, [.int v_th, .ref a_sa, .int v_sz, .int x_49, .int wr, .ref a_ru, .ref a_me, .ref a_le, .int v_n, .ref a_cl, .ref a_te, .ref a_ki, .ref a_ty, .ref a_bl, .ref a_ex, .ref a_lo, .int v_nl, .ref a_ho, .ref a_fi, .int v_nf, .ref a_cz, .int v_nc])), (a_sa, .inl (k_sa, 120, .inl f_sa))]) hP hD [0, 1] [2] rfl rfl (by decide) (by decide) hk1 hFc hP1 hD1
                          replace hK := (hK.sub (tys' := [(k_ru, .int)]) [1] rfl).app hK1
                          generalize H1 = H at hP hS ⊢
                          replace hP := hP.sub (ws' := [(a_m, .inr (5, [.int v_th, .ref a_sa, .int v_sz, .int x_49, .int wr, .ref a_ru, .ref a_me, .ref a_le, .int v_n, .ref a_cl, .ref a_te, .ref a_ki, .ref a_ty, .ref a_bl, .ref a_ex, .ref a_lo, .int v_nl, .ref a_ho, .ref a_fi, .int v_nf, .ref a_cz, .int v_nc])), (a_sa, .inl (k_sa, 120, .inl f_sa)), (a_ru, .inl (k_ru, 410, .inl R))]) [1, 2, 0] rfl
                          replace hD := hD.sub (ws' := [(a_m, .inr (5, [.int v_th, .ref a_sa, .int v_sz, .int x_49, .int wr, .ref a_ru, .ref a_me, .ref a_le, .int v_n, .ref a_cl, .ref a_te, .ref a_ki, .ref a_ty, .ref a_bl, .ref a_ex, .ref a_lo, .int v_nl, .ref a_ho, .ref a_fi, .int v_nf, .ref a_cz, .int v_nc])), (a_sa, .inl (k_sa, 120, .inl f_sa)), (a_ru, .inl (k_ru, 410, .inl R))]) [1, 2, 0] (by decide) rfl
                          replace hK := hK.sub (tys' := [(k_sa, .byte), (k_ru, .int)]) [1, 0] rfl
                          refine lv_aload_n hx hb d_M_reads_165 rfl (lv_at hl 3 rfl) ?_
                          refine lv_iload_n hx hb d_M_reads_166 rfl (lv_at hl 1 rfl) ?_
                          have hPc := hP.sub (ws' := [(a_m, .inr (5, [.int v_th, .ref a_sa, .int v_sz, .int x_49, .int wr, .ref a_ru, .ref a_me, .ref a_le, .int v_n, .ref a_cl, .ref a_te, .ref a_ki, .ref a_ty, .ref a_bl, .ref a_ex, .ref a_lo, .int v_nl, .ref a_ho, .ref a_fi, .int v_nf, .ref a_cz, .int v_nc])), (a_sa, .inl (k_sa, 120, .inl f_sa)), (a_ru, .inl (k_ru, 410, .inl R))]) [0, 1, 2] rfl
                          have hKc := hK.sub (tys' := [(k_sa, .byte), (k_ru, .int)]) [0, 1] rfl
                          have hDc := hD.sub (ws' := [(a_m, .inr (5, [.int v_th, .ref a_sa, .int v_sz, .int x_49, .int wr, .ref a_ru, .ref a_me, .ref a_le, .int v_n, .ref a_cl, .ref a_te, .ref a_ki, .ref a_ty, .ref a_bl, .ref a_ex, .ref a_lo, .int v_nl, .ref a_ho, .ref a_fi, .int v_nf, .ref a_cz, .int v_nc])), (a_sa, .inl (k_sa, 120, .inl f_sa)), (a_ru, .inl (k_ru, 410, .inl R))]) [0, 1, 2] (by decide) rfl
                          have hFc := va_free (wc := [(a_m, .inr (5, [.int v_th, .ref a_sa, .int v_sz, .int x_49, .int wr, .ref a_ru, .ref a_me, .ref a_le, .int v_n, .ref a_cl, .ref a_te, .ref a_ki, .ref a_ty, .ref a_bl, .ref a_ex, .ref a_lo, .int v_nl, .ref a_ho, .ref a_fi, .int v_nf, .ref a_cz, .int v_nc])), (a_sa, .inl (k_sa, 120, .inl f_sa)), (a_ru, .inl (k_ru, 410, .inl R))]) hD hS hA [0, 1, 2] rfl
                          refine va_calli (va_runV (As := [.int (g_Mg_step (g_Mg_word v_sz a f_sa))]) (rest := []) ⟨hx, hb, hml, hown, hts⟩ (c_Mg_one l dC dI adK adV (a_m := a_m) (p0 := g_Mg_step (g_Mg_word v_sz a f_sa)) (v_th := v_th) (a_sa := a_sa) (v_sz := v_sz) (v_at := x_49) (v_wr := wr) (a_ru := a_ru) (a_me := a_me) (a_le := a_le) (v_n := v_n) (a_cl := a_cl) (a_te := a_te) (a_ki := a_ki) (a_ty := a_ty) (a_bl := a_bl) (a_ex := a_ex) (a_lo := a_lo) (v_nl := v_nl) (a_ho := a_ho) (a_fi := a_fi) (v_nf := v_nf) (a_cz := a_cz) (v_nc := v_nc) (k_sa := k_sa) (f_sa := f_sa) (k_ru := k_ru) (f_ru := R) (sz := H.size) hsz (hg_x_49 ▸ pass_at hsz ha) hn) (cwV 1 hts (gV tw_716 tw_718 tw_31 tw_46 tw_719) rfl rfl rfl (by decide +kernel) ⟨(Nat.le_of_ble_eq_true rfl), (Nat.le_of_ble_eq_true rfl)⟩) ⟨fun a U g mk q => by obtain ⟨q0, q1, qZ, qP, qK, qD⟩ := q; exact ⟨q0, q1, zz_call qZ, qP, va_K.moved (u := U) (U := U.calling g mk a) (Vm.Alike.refl U.vm) qK, qD⟩, va_recv hKc hPc (ci := 5) (q0 := 0) rfl rfl, fun U hU hW => ⟨rfl, by rw [hU], zz_rw hS hFc hU hW hZ, by rw [hU]; exact hPc, va_K.moved hW.alike hKc, hDc.weaken (fun _ _ _ _ => trivial)⟩⟩ rfl rfl hl.1 rfl (lv_room (Nat.le_of_ble_eq_true rfl)) d_M_reads_167 ⟨(Nat.le_of_ble_eq_true rfl), (Nat.le_of_ble_eq_true rfl)⟩) hS (fun q _ h => hFc q h) hFc (fun r_50 u t H1 locs ht hvm hw_51 hB hz1 hk1 hS => ?_)
                          generalize hg_x_52 : g_Mg_one (g_Mg_step (g_Mg_word v_sz a f_sa)) v_sz x_49 wr v_n f_sa R = x_52 at hw_51 hB hg_rd1
                          rw [bv_eq] at hg_rd1
                          obtain ⟨hP1, hK1, hD1⟩ := hB
                          rw [ht] at hP1
                          have hK1 := va_K.moved hvm.symm hK1
                          obtain rfl : r_50 = x_52.1 := hw_51
                          obtain ⟨hP, hD⟩ := va_join (wr := []) (w1 := [(a_m, .inr (5, [.int v_th, .ref a_sa, .int v_sz, .int x_52.2.1, .int x_52.2.2.1, .ref a_ru, .ref a_me, .ref a_le, .int v_n, .ref a_cl, .ref a_te, .ref a_ki, .ref a_ty, .ref a_bl, .ref a_ex, .ref a_lo, .int v_nl, .ref a_ho, .ref a_fi, .int v_nf, .ref a_cz, .int v_nc])), (a_sa, .inl (k_sa, 120, .inl f_sa)), (a_ru, .inl (k_ru, 410, .inl x_52.2.2.2))]) hP hD [0, 1, 2] [] rfl rfl (by decide) (by decide) hk1 hFc hP1 hD1
                          replace hK := (hK.sub (tys' := []) [] rfl).app hK1
                          generalize H1 = H at hP hS ⊢
                          replace hP := hP.sub (ws' := [(a_m, .inr (5, [.int v_th, .ref a_sa, .int v_sz, .int x_52.2.1, .int x_52.2.2.1, .ref a_ru, .ref a_me, .ref a_le, .int v_n, .ref a_cl, .ref a_te, .ref a_ki, .ref a_ty, .ref a_bl, .ref a_ex, .ref a_lo, .int v_nl, .ref a_ho, .ref a_fi, .int v_nf, .ref a_cz, .int v_nc])), (a_sa, .inl (k_sa, 120, .inl f_sa)), (a_ru, .inl (k_ru, 410, .inl x_52.2.2.2))]) [0, 1, 2] rfl
                          replace hD := hD.sub (ws' := [(a_m, .inr (5, [.int v_th, .ref a_sa, .int v_sz, .int x_52.2.1, .int x_52.2.2.1, .ref a_ru, .ref a_me, .ref a_le, .int v_n, .ref a_cl, .ref a_te, .ref a_ki, .ref a_ty, .ref a_bl, .ref a_ex, .ref a_lo, .int v_nl, .ref a_ho, .ref a_fi, .int v_nf, .ref a_cz, .int v_nc])), (a_sa, .inl (k_sa, 120, .inl f_sa)), (a_ru, .inl (k_ru, 410, .inl x_52.2.2.2))]) [0, 1, 2] (by decide) rfl
                          replace hK := hK.sub (tys' := [(k_sa, .byte), (k_ru, .int)]) [0, 1] rfl
                          refine lv_if_ne (tgt := 175) hx hb d_M_reads_170 (by decide) (fun c_53 => ?_) (fun c_53 => ?_)
                          · rw [if_neg c_53] at hg_rd1
                            refine lv_iload_n hx hb d_M_reads_175 rfl (lv_at hl 1 rfl) ?_
                            refine lv_istore_n (lv' := [(1, .int (g_Mg_step (g_Mg_word v_sz a f_sa))), (3, .int 1), (2, .int (g_Mg_step (g_Mg_word v_sz a f_sa))), (0, .ref a_m)]) hx hb d_M_reads_176 rfl hl (by decide) rfl (fun ls hl => ?_)
                            refine lv_goto (tgt := 56) hx hb d_M_reads_177 (by decide) ?_
                            exact ih_rd1 _ _ _ _ _ _ _ ⟨hP, hD, hS, lv_sub hl [0, 3] rfl, ((hg_x_52 ▸ one_at hsz (hg_x_49 ▸ pass_at hsz ha))), (step_le _), (li_mt hla c_10 (step_le _) hm_rd1), hg_rd1⟩
                          · rw [if_pos c_53] at hg_rd1
                            subst hg_rd1
                            dsimp only at hE
                            rw [if_neg (by decide)] at hE
                            rw [if_neg (by decide)] at hE
                            rw [if_neg (by decide)] at hE
                            refine lv_iconst (v := 0) hx hb d_M_reads_173 (by decide) ?_
                            have hP9 := hP.sub (ws' := [(a_m, .inr (5, [.int v_th, .ref a_sa, .int v_sz, .int x_52.2.1, .int x_52.2.2.1, .ref a_ru, .ref a_me, .ref a_le, .int v_n, .ref a_cl, .ref a_te, .ref a_ki, .ref a_ty, .ref a_bl, .ref a_ex, .ref a_lo, .int v_nl, .ref a_ho, .ref a_fi, .int v_nf, .ref a_cz, .int v_nc])), (a_sa, .inl (k_sa, 120, .inl f_sa)), (a_ru, .inl (k_ru, 410, .inl x_52.2.2.2))]) [0, 1, 2] rfl
                            have hD9 := hD.sub (ws' := [(a_m, .inr (5, [.int v_th, .ref a_sa, .int v_sz, .int x_52.2.1, .int x_52.2.2.1, .ref a_ru, .ref a_me, .ref a_le, .int v_n, .ref a_cl, .ref a_te, .ref a_ki, .ref a_ty, .ref a_bl, .ref a_ex, .ref a_lo, .int v_nl, .ref a_ho, .ref a_fi, .int v_nf, .ref a_cz, .int v_nc])), (a_sa, .inl (k_sa, 120, .inl f_sa)), (a_ru, .inl (k_ru, 410, .inl x_52.2.2.2))]) [0, 1, 2] (by decide) rfl
                            have hK9 := hK.sub (tys' := [(k_sa, .byte), (k_ru, .int)]) [0, 1] rfl
                            exact W.zret (v := 0) hx hb hr rfl (fun t ht hW => ⟨⟨0, (), rfl, by rw [← hz, hE], by rw [ht, ← hz, hE]; exact hP9, va_K.moved hW.alike hK9, by rw [← hz, hE]; exact hD9⟩, hS.F ht⟩) hS.2.2 d_M_reads_174
                        · exact absurd c_47 (by decide)
                  · rw [if_pos c_36] at hg_rd1
                    refine lv_iload_n hx hb d_M_reads_123 rfl (lv_at hl 0 rfl) ?_
                    refine lv_bipush (v := 10) hx hb d_M_reads_124 (by decide) ?_
                    refine lv_icmp_ne (tgt := 142) hx hb d_M_reads_126 (by decide) (fun c_54 => ?_) (fun c_54 => ?_)
                    · rw [if_neg c_54] at hg_rd1
                      refine lv_iconst (v := 0) hx hb d_M_reads_142 (by decide) ?_
                      refine lv_istore_n (lv' := [(3, .int 0), (2, .int (g_Mg_step (g_Mg_word v_sz a f_sa))), (1, .int la), (0, .ref a_m)]) hx hb d_M_reads_143 rfl hl (by decide) rfl (fun ls hl => ?_)
                      refine lv_iload_n hx hb d_M_reads_144 rfl (lv_at hl 1 rfl) ?_
                      refine lv_if_eq (tgt := 152) hx hb d_M_reads_145 (by decide) (fun c_55 => ?_) (fun c_55 => ?_)
                      · subst hg_rd1
                        dsimp only at hE
                        rw [if_neg (by decide)] at hE
                        rw [if_neg (by decide)] at hE
                        rw [if_pos rfl] at hE
                        refine lv_aload_n hx hb d_M_reads_152 rfl (lv_at hl 3 rfl) ?_
                        refine lv_aload_n hx hb d_M_reads_153 rfl (lv_at hl 3 rfl) ?_
                        refine va_get (D := (dC, dI)) (ci := 5) (v := .int a) (C := "LoanRulesModel") (T := Fz_M) (N := 22) hx hb hts it_M hown hK hP 0 rfl rfl 3 (by decide) (hts _ tw_604) (fun _ h9 => h9) rfl d_M_reads_154 ?_
                        have hPc := hP.sub (ws' := [(a_m, .inr (5, [.int v_th, .ref a_sa, .int v_sz, .int a, .int wr, .ref a_ru, .ref a_me, .ref a_le, .int v_n, .ref a_cl, .ref a_te, .ref a_ki, .ref a_ty, .ref a_bl, .ref a_ex, .ref a_lo, .int v_nl, .ref a_ho, .ref a_fi, .int v_nf, .ref a_cz, .int v_nc]))]) [0] rfl
                        have hKc := hK.sub (tys' := []) [] rfl
                        have hDc := hD.sub (ws' := [(a_m, .inr (5, [.int v_th, .ref a_sa, .int v_sz, .int a, .int wr, .ref a_ru, .ref a_me, .ref a_le, .int v_n, .ref a_cl, .ref a_te, .ref a_ki, .ref a_ty, .ref a_bl, .ref a_ex, .ref a_lo, .int v_nl, .ref a_ho, .ref a_fi, .int v_nf, .ref a_cz, .int v_nc]))]) [0] (by decide) rfl
                        have hFc := va_free (wc := [(a_m, .inr (5, [.int v_th, .ref a_sa, .int v_sz, .int a, .int wr, .ref a_ru, .ref a_me, .ref a_le, .int v_n, .ref a_cl, .ref a_te, .ref a_ki, .ref a_ty, .ref a_bl, .ref a_ex, .ref a_lo, .int v_nl, .ref a_ho, .ref a_fi, .int v_nf, .ref a_cz, .int v_nc]))]) hD hS hA [0] rfl
                        refine va_calli (va_runV (As := [.int a]) (rest := []) ⟨hx, hb, hml, hown, hts⟩ (c_Mg_bad l dC dI adK adV (a_m := a_m) (p0 := a) (v_th := v_th) (a_sa := a_sa) (v_sz := v_sz) (v_at := a) (v_wr := wr) (a_ru := a_ru) (a_me := a_me) (a_le := a_le) (v_n := v_n) (a_cl := a_cl) (a_te := a_te) (a_ki := a_ki) (a_ty := a_ty) (a_bl := a_bl) (a_ex := a_ex) (a_lo := a_lo) (v_nl := v_nl) (a_ho := a_ho) (a_fi := a_fi) (v_nf := v_nf) (a_cz := a_cz) (v_nc := v_nc) (sz := H.size)) (cwV 1 hts (gV tw_688 tw_690 tw_28 tw_46 tw_691) rfl rfl rfl (by decide +kernel) ⟨(Nat.le_of_ble_eq_true rfl), (Nat.le_of_ble_eq_true rfl)⟩) ⟨fun a U g mk q => by obtain ⟨q0, q1, qZ, qP, qK, qD⟩ := q; exact ⟨q0, q1, zz_call qZ, qP, va_K.moved (u := U) (U := U.calling g mk a) (Vm.Alike.refl U.vm) qK, qD⟩, va_recv hKc hPc (ci := 5) (q0 := 0) rfl rfl, fun U hU hW => ⟨rfl, by rw [hU], zz_rw hS hFc hU hW hZ, by rw [hU]; exact hPc, va_K.moved hW.alike hKc, hDc.weaken (fun _ _ _ _ => trivial)⟩⟩ rfl rfl hl.1 rfl (lv_room (Nat.le_of_ble_eq_true rfl)) d_M_reads_157 ⟨(Nat.le_of_ble_eq_true rfl), (Nat.le_of_ble_eq_true rfl)⟩) hS (fun q _ h => hFc q h) hFc (fun r_56 u t H1 locs ht hvm hw_57 hB hz1 hk1 hS => ?_)
                        obtain ⟨hP1, hK1, hD1⟩ := hB
                        rw [ht] at hP1
                        have hK1 := va_K.moved hvm.symm hK1
                        obtain rfl : r_56 = 0 := hw_57
                        obtain ⟨hP, hD⟩ := va_join (wr := [(a_sa, .inl (k_sa, 120, .inl f_sa)), (a_ru, .inl (k_ru, 410, .inl R))]) (w1 := [(a_m, .inr (5, [.int v_th, .ref a_sa, .int v_sz, .int a, .int a, .ref a_ru, .ref a_me, .ref a_le, .int v_n, .ref a_cl, .ref a_te, .ref a_ki, .ref a_ty, .ref a_bl, .ref a_ex, .ref a_lo, .int v_nl, .ref a_ho, .ref a_fi, .int v_nf, .ref a_cz, .int v_nc]))]) hP hD [0] [1, 2] rfl rfl (by decide) (by decide) hk1 hFc hP1 hD1
                        replace hK := (hK.sub (tys' := [(k_sa, .byte), (k_ru, .int)]) [0, 1] rfl).app hK1
                        generalize H1 = H at hP hS ⊢
                        replace hP := hP.sub (ws' := [(a_m, .inr (5, [.int v_th, .ref a_sa, .int v_sz, .int a, .int a, .ref a_ru, .ref a_me, .ref a_le, .int v_n, .ref a_cl, .ref a_te, .ref a_ki, .ref a_ty, .ref a_bl, .ref a_ex, .ref a_lo, .int v_nl, .ref a_ho, .ref a_fi, .int v_nf, .ref a_cz, .int v_nc])), (a_sa, .inl (k_sa, 120, .inl f_sa)), (a_ru, .inl (k_ru, 410, .inl R))]) [2, 0, 1] rfl
                        replace hD := hD.sub (ws' := [(a_m, .inr (5, [.int v_th, .ref a_sa, .int v_sz, .int a, .int a, .ref a_ru, .ref a_me, .ref a_le, .int v_n, .ref a_cl, .ref a_te, .ref a_ki, .ref a_ty, .ref a_bl, .ref a_ex, .ref a_lo, .int v_nl, .ref a_ho, .ref a_fi, .int v_nf, .ref a_cz, .int v_nc])), (a_sa, .inl (k_sa, 120, .inl f_sa)), (a_ru, .inl (k_ru, 410, .inl R))]) [2, 0, 1] (by decide) rfl
                        replace hK := hK.sub (tys' := [(k_sa, .byte), (k_ru, .int)]) [0, 1] rfl
                        have hP9 := hP.sub (ws' := [(a_m, .inr (5, [.int v_th, .ref a_sa, .int v_sz, .int a, .int a, .ref a_ru, .ref a_me, .ref a_le, .int v_n, .ref a_cl, .ref a_te, .ref a_ki, .ref a_ty, .ref a_bl, .ref a_ex, .ref a_lo, .int v_nl, .ref a_ho, .ref a_fi, .int v_nf, .ref a_cz, .int v_nc])), (a_sa, .inl (k_sa, 120, .inl f_sa)), (a_ru, .inl (k_ru, 410, .inl R))]) [0, 1, 2] rfl
                        have hD9 := hD.sub (ws' := [(a_m, .inr (5, [.int v_th, .ref a_sa, .int v_sz, .int a, .int a, .ref a_ru, .ref a_me, .ref a_le, .int v_n, .ref a_cl, .ref a_te, .ref a_ki, .ref a_ty, .ref a_bl, .ref a_ex, .ref a_lo, .int v_nl, .ref a_ho, .ref a_fi, .int v_nf, .ref a_cz, .int v_nc])), (a_sa, .inl (k_sa, 120, .inl f_sa)), (a_ru, .inl (k_ru, 410, .inl R))]) [0, 1, 2] (by decide) rfl
                        have hK9 := hK.sub (tys' := [(k_sa, .byte), (k_ru, .int)]) [0, 1] rfl
                        exact W.zret (v := 0) hx hb hr rfl (fun t ht hW => ⟨⟨0, (), rfl, by rw [← hz, hE], by rw [ht, ← hz, hE]; exact hP9, va_K.moved hW.alike hK9, by rw [← hz, hE]; exact hD9⟩, hS.F ht⟩) hS.2.2 d_M_reads_160
                      · refine lv_iload_n hx hb d_M_reads_148 rfl (lv_at hl 0 rfl) ?_
                        refine lv_if_ne (tgt := 161) hx hb d_M_reads_149 (by decide) (fun c_58 => ?_) (fun c_58 => ?_)
                        · exact absurd (by decide) c_58
                        · subst hg_rd1
                          dsimp only at hE
                          rw [if_neg (by decide)] at hE
                          rw [if_neg (by decide)] at hE
                          rw [if_pos rfl] at hE
                          refine lv_aload_n hx hb d_M_reads_152 rfl (lv_at hl 3 rfl) ?_
                          refine lv_aload_n hx hb d_M_reads_153 rfl (lv_at hl 3 rfl) ?_
                          refine va_get (D := (dC, dI)) (ci := 5) (v := .int a) (C := "LoanRulesModel") (T := Fz_M) (N := 22) hx hb hts it_M hown hK hP 0 rfl rfl 3 (by decide) (hts _ tw_604) (fun _ h9 => h9) rfl d_M_reads_154 ?_
                          have hPc := hP.sub (ws' := [(a_m, .inr (5, [.int v_th, .ref a_sa, .int v_sz, .int a, .int wr, .ref a_ru, .ref a_me, .ref a_le, .int v_n, .ref a_cl, .ref a_te, .ref a_ki, .ref a_ty, .ref a_bl, .ref a_ex, .ref a_lo, .int v_nl, .ref a_ho, .ref a_fi, .int v_nf, .ref a_cz, .int v_nc]))]) [0] rfl
                          have hKc := hK.sub (tys' := []) [] rfl
                          have hDc := hD.sub (ws' := [(a_m, .inr (5, [.int v_th, .ref a_sa, .int v_sz, .int a, .int wr, .ref a_ru, .ref a_me, .ref a_le, .int v_n, .ref a_cl, .ref a_te, .ref a_ki, .ref a_ty, .ref a_bl, .ref a_ex, .ref a_lo, .int v_nl, .ref a_ho, .ref a_fi, .int v_nf, .ref a_cz, .int v_nc]))]) [0] (by decide) rfl
                          have hFc := va_free (wc := [(a_m, .inr (5, [.int v_th, .ref a_sa, .int v_sz, .int a, .int wr, .ref a_ru, .ref a_me, .ref a_le, .int v_n, .ref a_cl, .ref a_te, .ref a_ki, .ref a_ty, .ref a_bl, .ref a_ex, .ref a_lo, .int v_nl, .ref a_ho, .ref a_fi, .int v_nf, .ref a_cz, .int v_nc]))]) hD hS hA [0] rfl
                          refine va_calli (va_runV (As := [.int a]) (rest := []) ⟨hx, hb, hml, hown, hts⟩ (c_Mg_bad l dC dI adK adV (a_m := a_m) (p0 := a) (v_th := v_th) (a_sa := a_sa) (v_sz := v_sz) (v_at := a) (v_wr := wr) (a_ru := a_ru) (a_me := a_me) (a_le := a_le) (v_n := v_n) (a_cl := a_cl) (a_te := a_te) (a_ki := a_ki) (a_ty := a_ty) (a_bl := a_bl) (a_ex := a_ex) (a_lo := a_lo) (v_nl := v_nl) (a_ho := a_ho) (a_fi := a_fi) (v_nf := v_nf) (a_cz := a_cz) (v_nc := v_nc) (sz := H.size)) (cwV 1 hts (gV tw_688 tw_690 tw_28 tw_46 tw_691) rfl rfl rfl (by decide +kernel) ⟨(Nat.le_of_ble_eq_true rfl), (Nat.le_of_ble_eq_true rfl)⟩) ⟨fun a U g mk q => by obtain ⟨q0, q1, qZ, qP, qK, qD⟩ := q; exact ⟨q0, q1, zz_call qZ, qP, va_K.moved (u := U) (U := U.calling g mk a) (Vm.Alike.refl U.vm) qK, qD⟩, va_recv hKc hPc (ci := 5) (q0 := 0) rfl rfl, fun U hU hW => ⟨rfl, by rw [hU], zz_rw hS hFc hU hW hZ, by rw [hU]; exact hPc, va_K.moved hW.alike hKc, hDc.weaken (fun _ _ _ _ => trivial)⟩⟩ rfl rfl hl.1 rfl (lv_room (Nat.le_of_ble_eq_true rfl)) d_M_reads_157 ⟨(Nat.le_of_ble_eq_true rfl), (Nat.le_of_ble_eq_true rfl)⟩) hS (fun q _ h => hFc q h) hFc (fun r_59 u t H1 locs ht hvm hw_60 hB hz1 hk1 hS => ?_)
                          obtain ⟨hP1, hK1, hD1⟩ := hB
                          rw [ht] at hP1
                          have hK1 := va_K.moved hvm.symm hK1
                          obtain rfl : r_59 = 0 := hw_60
                          obtain ⟨hP, hD⟩ := va_join (wr := [(a_sa, .inl (k_sa, 120, .inl f_sa)), (a_ru, .inl (k_ru, 410, .inl R))]) (w1 := [(a_m, .inr (5, [.int v_th, .ref a_sa, .int v_sz, .int a, .int a, .ref a_ru, .ref a_me, .ref a_le, .int v_n, .ref a_cl, .ref a_te, .ref a_ki, .ref a_ty, .ref a_bl, .ref a_ex, .ref a_lo, .int v_nl, .ref a_ho, .ref a_fi, .int v_nf, .ref a_cz, .int v_nc]))]) hP hD [0] [1, 2] rfl rfl (by decide) (by decide) hk1 hFc hP1 hD1
                          replace hK := (hK.sub (tys' := [(k_sa, .byte), (k_ru, .int)]) [0, 1] rfl).app hK1
                          generalize H1 = H at hP hS ⊢
                          replace hP := hP.sub (ws' := [(a_m, .inr (5, [.int v_th, .ref a_sa, .int v_sz, .int a, .int a, .ref a_ru, .ref a_me, .ref a_le, .int v_n, .ref a_cl, .ref a_te, .ref a_ki, .ref a_ty, .ref a_bl, .ref a_ex, .ref a_lo, .int v_nl, .ref a_ho, .ref a_fi, .int v_nf, .ref a_cz, .int v_nc])), (a_sa, .inl (k_sa, 120, .inl f_sa)), (a_ru, .inl (k_ru, 410, .inl R))]) [2, 0, 1] rfl
                          replace hD := hD.sub (ws' := [(a_m, .inr (5, [.int v_th, .ref a_sa, .int v_sz, .int a, .int a, .ref a_ru, .ref a_me, .ref a_le, .int v_n, .ref a_cl, .ref a_te, .ref a_ki, .ref a_ty, .ref a_bl, .ref a_ex, .ref a_lo, .int v_nl, .ref a_ho, .ref a_fi, .int v_nf, .ref a_cz, .int v_nc])), (a_sa, .inl (k_sa, 120, .inl f_sa)), (a_ru, .inl (k_ru, 410, .inl R))]) [2, 0, 1] (by decide) rfl
                          replace hK := hK.sub (tys' := [(k_sa, .byte), (k_ru, .int)]) [0, 1] rfl
                          have hP9 := hP.sub (ws' := [(a_m, .inr (5, [.int v_th, .ref a_sa, .int v_sz, .int a, .int a, .ref a_ru, .ref a_me, .ref a_le, .int v_n, .ref a_cl, .ref a_te, .ref a_ki, .ref a_ty, .ref a_bl, .ref a_ex, .ref a_lo, .int v_nl, .ref a_ho, .ref a_fi, .int v_nf, .ref a_cz, .int v_nc])), (a_sa, .inl (k_sa, 120, .inl f_sa)), (a_ru, .inl (k_ru, 410, .inl R))]) [0, 1, 2] rfl
                          have hD9 := hD.sub (ws' := [(a_m, .inr (5, [.int v_th, .ref a_sa, .int v_sz, .int a, .int a, .ref a_ru, .ref a_me, .ref a_le, .int v_n, .ref a_cl, .ref a_te, .ref a_ki, .ref a_ty, .ref a_bl, .ref a_ex, .ref a_lo, .int v_nl, .ref a_ho, .ref a_fi, .int v_nf, .ref a_cz, .int v_nc])), (a_sa, .inl (k_sa, 120, .inl f_sa)), (a_ru, .inl (k_ru, 410, .inl R))]) [0, 1, 2] (by decide) rfl
                          have hK9 := hK.sub (tys' := [(k_sa, .byte), (k_ru, .int)]) [0, 1] rfl
                          exact W.zret (v := 0) hx hb hr rfl (fun t ht hW => ⟨⟨0, (), rfl, by rw [← hz, hE], by rw [ht, ← hz, hE]; exact hP9, va_K.moved hW.alike hK9, by rw [← hz, hE]; exact hD9⟩, hS.F ht⟩) hS.2.2 d_M_reads_160
                    · rw [if_pos c_54] at hg_rd1
                      refine lv_goto (tgt := 138) hx hb d_M_reads_129 (by decide) ?_
                      refine lv_iconst (v := 1) hx hb d_M_reads_138 (by decide) ?_
                      refine lv_goto (tgt := 143) hx hb d_M_reads_139 (by decide) ?_
                      refine lv_istore_n (lv' := [(3, .int 1), (2, .int (g_Mg_step (g_Mg_word v_sz a f_sa))), (1, .int la), (0, .ref a_m)]) hx hb d_M_reads_143 rfl hl (by decide) rfl (fun ls hl => ?_)
                      refine lv_iload_n hx hb d_M_reads_144 rfl (lv_at hl 1 rfl) ?_
                      refine lv_if_eq (tgt := 152) hx hb d_M_reads_145 (by decide) (fun c_61 => ?_) (fun c_61 => ?_)
                      · rw [if_pos c_61] at hg_rd1
                        subst hg_rd1
                        dsimp only at hE
                        rw [if_neg (by decide)] at hE
                        rw [if_neg (by decide)] at hE
                        rw [if_pos rfl] at hE
                        refine lv_aload_n hx hb d_M_reads_152 rfl (lv_at hl 3 rfl) ?_
                        refine lv_aload_n hx hb d_M_reads_153 rfl (lv_at hl 3 rfl) ?_
                        refine va_get (D := (dC, dI)) (ci := 5) (v := .int a) (C := "LoanRulesModel") (T := Fz_M) (N := 22) hx hb hts it_M hown hK hP 0 rfl rfl 3 (by decide) (hts _ tw_604) (fun _ h9 => h9) rfl d_M_reads_154 ?_
                        have hPc := hP.sub (ws' := [(a_m, .inr (5, [.int v_th, .ref a_sa, .int v_sz, .int a, .int wr, .ref a_ru, .ref a_me, .ref a_le, .int v_n, .ref a_cl, .ref a_te, .ref a_ki, .ref a_ty, .ref a_bl, .ref a_ex, .ref a_lo, .int v_nl, .ref a_ho, .ref a_fi, .int v_nf, .ref a_cz, .int v_nc]))]) [0] rfl
                        have hKc := hK.sub (tys' := []) [] rfl
                        have hDc := hD.sub (ws' := [(a_m, .inr (5, [.int v_th, .ref a_sa, .int v_sz, .int a, .int wr, .ref a_ru, .ref a_me, .ref a_le, .int v_n, .ref a_cl, .ref a_te, .ref a_ki, .ref a_ty, .ref a_bl, .ref a_ex, .ref a_lo, .int v_nl, .ref a_ho, .ref a_fi, .int v_nf, .ref a_cz, .int v_nc]))]) [0] (by decide) rfl
                        have hFc := va_free (wc := [(a_m, .inr (5, [.int v_th, .ref a_sa, .int v_sz, .int a, .int wr, .ref a_ru, .ref a_me, .ref a_le, .int v_n, .ref a_cl, .ref a_te, .ref a_ki, .ref a_ty, .ref a_bl, .ref a_ex, .ref a_lo, .int v_nl, .ref a_ho, .ref a_fi, .int v_nf, .ref a_cz, .int v_nc]))]) hD hS hA [0] rfl
                        refine va_calli (va_runV (As := [.int a]) (rest := []) ⟨hx, hb, hml, hown, hts⟩ (c_Mg_bad l dC dI adK adV (a_m := a_m) (p0 := a) (v_th := v_th) (a_sa := a_sa) (v_sz := v_sz) (v_at := a) (v_wr := wr) (a_ru := a_ru) (a_me := a_me) (a_le := a_le) (v_n := v_n) (a_cl := a_cl) (a_te := a_te) (a_ki := a_ki) (a_ty := a_ty) (a_bl := a_bl) (a_ex := a_ex) (a_lo := a_lo) (v_nl := v_nl) (a_ho := a_ho) (a_fi := a_fi) (v_nf := v_nf) (a_cz := a_cz) (v_nc := v_nc) (sz := H.size)) (cwV 1 hts (gV tw_688 tw_690 tw_28 tw_46 tw_691) rfl rfl rfl (by decide +kernel) ⟨(Nat.le_of_ble_eq_true rfl), (Nat.le_of_ble_eq_true rfl)⟩) ⟨fun a U g mk q => by obtain ⟨q0, q1, qZ, qP, qK, qD⟩ := q; exact ⟨q0, q1, zz_call qZ, qP, va_K.moved (u := U) (U := U.calling g mk a) (Vm.Alike.refl U.vm) qK, qD⟩, va_recv hKc hPc (ci := 5) (q0 := 0) rfl rfl, fun U hU hW => ⟨rfl, by rw [hU], zz_rw hS hFc hU hW hZ, by rw [hU]; exact hPc, va_K.moved hW.alike hKc, hDc.weaken (fun _ _ _ _ => trivial)⟩⟩ rfl rfl hl.1 rfl (lv_room (Nat.le_of_ble_eq_true rfl)) d_M_reads_157 ⟨(Nat.le_of_ble_eq_true rfl), (Nat.le_of_ble_eq_true rfl)⟩) hS (fun q _ h => hFc q h) hFc (fun r_62 u t H1 locs ht hvm hw_63 hB hz1 hk1 hS => ?_)
                        obtain ⟨hP1, hK1, hD1⟩ := hB
                        rw [ht] at hP1
                        have hK1 := va_K.moved hvm.symm hK1
                        obtain rfl : r_62 = 0 := hw_63
                        obtain ⟨hP, hD⟩ := va_join (wr := [(a_sa, .inl (k_sa, 120, .inl f_sa)), (a_ru, .inl (k_ru, 410, .inl R))]) (w1 := [(a_m, .inr (5, [.int v_th, .ref a_sa, .int v_sz, .int a, .int a, .ref a_ru, .ref a_me, .ref a_le, .int v_n, .ref a_cl, .ref a_te, .ref a_ki, .ref a_ty, .ref a_bl, .ref a_ex, .ref a_lo, .int v_nl, .ref a_ho, .ref a_fi, .int v_nf, .ref a_cz, .int v_nc]))]) hP hD [0] [1, 2] rfl rfl (by decide) (by decide) hk1 hFc hP1 hD1
                        replace hK := (hK.sub (tys' := [(k_sa, .byte), (k_ru, .int)]) [0, 1] rfl).app hK1
                        generalize H1 = H at hP hS ⊢
                        replace hP := hP.sub (ws' := [(a_m, .inr (5, [.int v_th, .ref a_sa, .int v_sz, .int a, .int a, .ref a_ru, .ref a_me, .ref a_le, .int v_n, .ref a_cl, .ref a_te, .ref a_ki, .ref a_ty, .ref a_bl, .ref a_ex, .ref a_lo, .int v_nl, .ref a_ho, .ref a_fi, .int v_nf, .ref a_cz, .int v_nc])), (a_sa, .inl (k_sa, 120, .inl f_sa)), (a_ru, .inl (k_ru, 410, .inl R))]) [2, 0, 1] rfl
                        replace hD := hD.sub (ws' := [(a_m, .inr (5, [.int v_th, .ref a_sa, .int v_sz, .int a, .int a, .ref a_ru, .ref a_me, .ref a_le, .int v_n, .ref a_cl, .ref a_te, .ref a_ki, .ref a_ty, .ref a_bl, .ref a_ex, .ref a_lo, .int v_nl, .ref a_ho, .ref a_fi, .int v_nf, .ref a_cz, .int v_nc])), (a_sa, .inl (k_sa, 120, .inl f_sa)), (a_ru, .inl (k_ru, 410, .inl R))]) [2, 0, 1] (by decide) rfl
                        replace hK := hK.sub (tys' := [(k_sa, .byte), (k_ru, .int)]) [0, 1] rfl
                        have hP9 := hP.sub (ws' := [(a_m, .inr (5, [.int v_th, .ref a_sa, .int v_sz, .int a, .int a, .ref a_ru, .ref a_me, .ref a_le, .int v_n, .ref a_cl, .ref a_te, .ref a_ki, .ref a_ty, .ref a_bl, .ref a_ex, .ref a_lo, .int v_nl, .ref a_ho, .ref a_fi, .int v_nf, .ref a_cz, .int v_nc])), (a_sa, .inl (k_sa, 120, .inl f_sa)), (a_ru, .inl (k_ru, 410, .inl R))]) [0, 1, 2] rfl
                        have hD9 := hD.sub (ws' := [(a_m, .inr (5, [.int v_th, .ref a_sa, .int v_sz, .int a, .int a, .ref a_ru, .ref a_me, .ref a_le, .int v_n, .ref a_cl, .ref a_te, .ref a_ki, .ref a_ty, .ref a_bl, .ref a_ex, .ref a_lo, .int v_nl, .ref a_ho, .ref a_fi, .int v_nf, .ref a_cz, .int v_nc])), (a_sa, .inl (k_sa, 120, .inl f_sa)), (a_ru, .inl (k_ru, 410, .inl R))]) [0, 1, 2] (by decide) rfl
                        have hK9 := hK.sub (tys' := [(k_sa, .byte), (k_ru, .int)]) [0, 1] rfl
                        exact W.zret (v := 0) hx hb hr rfl (fun t ht hW => ⟨⟨0, (), rfl, by rw [← hz, hE], by rw [ht, ← hz, hE]; exact hP9, va_K.moved hW.alike hK9, by rw [← hz, hE]; exact hD9⟩, hS.F ht⟩) hS.2.2 d_M_reads_160
                      · rw [if_neg c_61] at hg_rd1
                        refine lv_iload_n hx hb d_M_reads_148 rfl (lv_at hl 0 rfl) ?_
                        refine lv_if_ne (tgt := 161) hx hb d_M_reads_149 (by decide) (fun c_64 => ?_) (fun c_64 => ?_)
                        · refine lv_aload_n hx hb d_M_reads_161 rfl (lv_at hl 3 rfl) ?_
                          have hPc := hP.sub (ws' := [(a_m, .inr (5, [.int v_th, .ref a_sa, .int v_sz, .int a, .int wr, .ref a_ru, .ref a_me, .ref a_le, .int v_n, .ref a_cl, .ref a_te, .ref a_ki, .ref a_ty, .ref a_bl, .ref a_ex, .ref a_lo, .int v_nl, .ref a_ho, .ref a_fi, .int v_nf, .ref a_cz, .int v_nc])), (a_sa, .inl (k_sa, 120, .inl f_sa))]) [0, 1] rfl
                          have hKc := hK.sub (tys' := [(k_sa, .byte)]) [0] rfl
                          have hDc := hD.sub (ws' := [(a_m, .inr (5, [.int v_th, .ref a_sa, .int v_sz, .int a, .int wr, .ref a_ru, .ref a_me, .ref a_le, .int v_n, .ref a_cl, .ref a_te, .ref a_ki, .ref a_ty, .ref a_bl, .ref a_ex, .ref a_lo, .int v_nl, .ref a_ho, .ref a_fi, .int v_nf, .ref a_cz, .int v_nc])), (a_sa, .inl (k_sa, 120, .inl f_sa))]) [0, 1] (by decide) rfl
                          have hFc := va_free (wc := [(a_m, .inr (5, [.int v_th, .ref a_sa, .int v_sz, .int a, .int wr, .ref a_ru, .ref a_me, .ref a_le, .int v_n, .ref a_cl, .ref a_te, .ref a_ki, .ref a_ty, .ref a_bl, .ref a_ex, .ref a_lo, .int v_nl, .ref a_ho, .ref a_fi, .int v_nf, .ref a_cz, .int v_nc])), (a_sa, .inl (k_sa, 120, .inl f_sa))]) hD hS hA [0, 1] rfl
                          refine va_callv (va_runV (As := []) (rest := []) ⟨hx, hb, hml, hown, hts⟩ (c_Mg_pass l dC dI adK adV (a_m := a_m) (v_th := v_th) (a_sa := a_sa) (v_sz := v_sz) (v_at := a) (v_wr := wr) (a_ru := a_ru) (a_me := a_me) (a_le := a_le) (v_n := v_n) (a_cl := a_cl) (a_te := a_te) (a_ki := a_ki) (a_ty := a_ty) (a_bl := a_bl) (a_ex := a_ex) (a_lo := a_lo) (v_nl := v_nl) (a_ho := a_ho) (a_fi := a_fi) (v_nf := v_nf) (a_cz := a_cz) (v_nc := v_nc) (k_sa := k_sa) (f_sa := f_sa) (sz := H.size) hsz ha) (cwV 0 hts (gV tw_712 tw_714 tw_30 tw_46 tw_715) rfl rfl rfl (by decide +kernel) ⟨(Nat.le_of_ble_eq_true rfl), (Nat.le_of_ble_eq_true rfl)⟩) ⟨fun a U g mk q => by obtain ⟨q0, q1, qZ, qP, qK, qD⟩ := q; exact ⟨q0, q1, zz_call qZ, qP, va_K.moved (u := U) (U := U.calling g mk a) (Vm.Alike.refl U.vm) qK, qD⟩, va_recv hKc hPc (ci := 5) (q0 := 0) rfl rfl, fun U hU hW => ⟨rfl, by rw [hU], zz_rw hS hFc hU hW hZ, by rw [hU]; exact hPc, va_K.moved hW.alike hKc, hDc.weaken (fun _ _ _ _ => trivial)⟩⟩ rfl rfl hl.1 rfl (lv_room (Nat.le_of_ble_eq_true rfl)) d_M_reads_162 ⟨(Nat.le_of_ble_eq_true rfl), (Nat.le_of_ble_eq_true rfl)⟩) hS (fun q _ h => hFc q h) hFc (fun u t H1 locs ht hvm hw_65 hB hz1 hk1 hS => ?_)
                          generalize hg_x_66 : g_Mg_pass v_sz a f_sa = x_66 at hw_65 hB hg_rd1
                          rw [bv_eq] at hg_rd1
                          obtain ⟨hP1, hK1, hD1⟩ := hB
                          rw [ht] at hP1
                          have hK1 := va_K.moved hvm.symm hK1
                          obtain ⟨hP, hD⟩ := va_join (wr := [(a_ru, .inl (k_ru, 410, .inl R))]) (w1 := [(a_m, .inr (5, [.int v_th, .ref a_sa, .int v_sz, .int x_66, .int wr, .ref a_ru, .ref a_me, .ref a_le, .int v_n, .ref a_cl, .ref a_te, .ref a_ki, .ref a_ty, .ref a_bl, .ref a_ex, .ref a_lo, .int v_nl, .ref a_ho, .ref a_fi, .int v_nf, .ref a_cz, .int v_nc])), (a_sa, .inl (k_sa, 120, .inl f_sa))]) hP hD [0, 1] [2] rfl rfl (by decide) (by decide) hk1 hFc hP1 hD1
                          replace hK := (hK.sub (tys' := [(k_ru, .int)]) [1] rfl).app hK1
                          generalize H1 = H at hP hS ⊢
                          replace hP := hP.sub (ws' := [(a_m, .inr (5, [.int v_th, .ref a_sa, .int v_sz, .int x_66, .int wr, .ref a_ru, .ref a_me, .ref a_le, .int v_n, .ref a_cl, .ref a_te, .ref a_ki, .ref a_ty, .ref a_bl, .ref a_ex, .ref a_lo, .int v_nl, .ref a_ho, .ref a_fi, .int v_nf, .ref a_cz, .int v_nc])), (a_sa, .inl (k_sa, 120, .inl f_sa)), (a_ru, .inl (k_ru, 410, .inl R))]) [1, 2, 0] rfl
                          replace hD := hD.sub (ws' := [(a_m, .inr (5, [.int v_th, .ref a_sa, .int v_sz, .int x_66, .int wr, .ref a_ru, .ref a_me, .ref a_le, .int v_n, .ref a_cl, .ref a_te, .ref a_ki, .ref a_ty, .ref a_bl, .ref a_ex, .ref a_lo, .int v_nl, .ref a_ho, .ref a_fi, .int v_nf, .ref a_cz, .int v_nc])), (a_sa, .inl (k_sa, 120, .inl f_sa)), (a_ru, .inl (k_ru, 410, .inl R))]) [1, 2, 0] (by decide) rfl
                          replace hK := hK.sub (tys' := [(k_sa, .byte), (k_ru, .int)]) [1, 0] rfl
                          refine lv_aload_n hx hb d_M_reads_165 rfl (lv_at hl 3 rfl) ?_
                          refine lv_iload_n hx hb d_M_reads_166 rfl (lv_at hl 1 rfl) ?_
                          have hPc := hP.sub (ws' := [(a_m, .inr (5, [.int v_th, .ref a_sa, .int v_sz, .int x_66, .int wr, .ref a_ru, .ref a_me, .ref a_le, .int v_n, .ref a_cl, .ref a_te, .ref a_ki, .ref a_ty, .ref a_bl, .ref a_ex, .ref a_lo, .int v_nl, .ref a_ho, .ref a_fi, .int v_nf, .ref a_cz, .int v_nc])), (a_sa, .inl (k_sa, 120, .inl f_sa)), (a_ru, .inl (k_ru, 410, .inl R))]) [0, 1, 2] rfl
                          have hKc := hK.sub (tys' := [(k_sa, .byte), (k_ru, .int)]) [0, 1] rfl
                          have hDc := hD.sub (ws' := [(a_m, .inr (5, [.int v_th, .ref a_sa, .int v_sz, .int x_66, .int wr, .ref a_ru, .ref a_me, .ref a_le, .int v_n, .ref a_cl, .ref a_te, .ref a_ki, .ref a_ty, .ref a_bl, .ref a_ex, .ref a_lo, .int v_nl, .ref a_ho, .ref a_fi, .int v_nf, .ref a_cz, .int v_nc])), (a_sa, .inl (k_sa, 120, .inl f_sa)), (a_ru, .inl (k_ru, 410, .inl R))]) [0, 1, 2] (by decide) rfl
                          have hFc := va_free (wc := [(a_m, .inr (5, [.int v_th, .ref a_sa, .int v_sz, .int x_66, .int wr, .ref a_ru, .ref a_me, .ref a_le, .int v_n, .ref a_cl, .ref a_te, .ref a_ki, .ref a_ty, .ref a_bl, .ref a_ex, .ref a_lo, .int v_nl, .ref a_ho, .ref a_fi, .int v_nf, .ref a_cz, .int v_nc])), (a_sa, .inl (k_sa, 120, .inl f_sa)), (a_ru, .inl (k_ru, 410, .inl R))]) hD hS hA [0, 1, 2] rfl
                          refine va_calli (va_runV (As := [.int (g_Mg_step (g_Mg_word v_sz a f_sa))]) (rest := []) ⟨hx, hb, hml, hown, hts⟩ (c_Mg_one l dC dI adK adV (a_m := a_m) (p0 := g_Mg_step (g_Mg_word v_sz a f_sa)) (v_th := v_th) (a_sa := a_sa) (v_sz := v_sz) (v_at := x_66) (v_wr := wr) (a_ru := a_ru) (a_me := a_me) (a_le := a_le) (v_n := v_n) (a_cl := a_cl) (a_te := a_te) (a_ki := a_ki) (a_ty := a_ty) (a_bl := a_bl) (a_ex := a_ex) (a_lo := a_lo) (v_nl := v_nl) (a_ho := a_ho) (a_fi := a_fi) (v_nf := v_nf) (a_cz := a_cz) (v_nc := v_nc) (k_sa := k_sa) (f_sa := f_sa) (k_ru := k_ru) (f_ru := R) (sz := H.size) hsz (hg_x_66 ▸ pass_at hsz ha) hn) (cwV 1 hts (gV tw_716 tw_718 tw_31 tw_46 tw_719) rfl rfl rfl (by decide +kernel) ⟨(Nat.le_of_ble_eq_true rfl), (Nat.le_of_ble_eq_true rfl)⟩) ⟨fun a U g mk q => by obtain ⟨q0, q1, qZ, qP, qK, qD⟩ := q; exact ⟨q0, q1, zz_call qZ, qP, va_K.moved (u := U) (U := U.calling g mk a) (Vm.Alike.refl U.vm) qK, qD⟩, va_recv hKc hPc (ci := 5) (q0 := 0) rfl rfl, fun U hU hW => ⟨rfl, by rw [hU], zz_rw hS hFc hU hW hZ, by rw [hU]; exact hPc, va_K.moved hW.alike hKc, hDc.weaken (fun _ _ _ _ => trivial)⟩⟩ rfl rfl hl.1 rfl (lv_room (Nat.le_of_ble_eq_true rfl)) d_M_reads_167 ⟨(Nat.le_of_ble_eq_true rfl), (Nat.le_of_ble_eq_true rfl)⟩) hS (fun q _ h => hFc q h) hFc (fun r_67 u t H1 locs ht hvm hw_68 hB hz1 hk1 hS => ?_)
                          generalize hg_x_69 : g_Mg_one (g_Mg_step (g_Mg_word v_sz a f_sa)) v_sz x_66 wr v_n f_sa R = x_69 at hw_68 hB hg_rd1
                          rw [bv_eq] at hg_rd1
                          obtain ⟨hP1, hK1, hD1⟩ := hB
                          rw [ht] at hP1
                          have hK1 := va_K.moved hvm.symm hK1
                          obtain rfl : r_67 = x_69.1 := hw_68
                          obtain ⟨hP, hD⟩ := va_join (wr := []) (w1 := [(a_m, .inr (5, [.int v_th, .ref a_sa, .int v_sz, .int x_69.2.1, .int x_69.2.2.1, .ref a_ru, .ref a_me, .ref a_le, .int v_n, .ref a_cl, .ref a_te, .ref a_ki, .ref a_ty, .ref a_bl, .ref a_ex, .ref a_lo, .int v_nl, .ref a_ho, .ref a_fi, .int v_nf, .ref a_cz, .int v_nc])), (a_sa, .inl (k_sa, 120, .inl f_sa)), (a_ru, .inl (k_ru, 410, .inl x_69.2.2.2))]) hP hD [0, 1, 2] [] rfl rfl (by decide) (by decide) hk1 hFc hP1 hD1
                          replace hK := (hK.sub (tys' := []) [] rfl).app hK1
                          generalize H1 = H at hP hS ⊢
                          replace hP := hP.sub (ws' := [(a_m, .inr (5, [.int v_th, .ref a_sa, .int v_sz, .int x_69.2.1, .int x_69.2.2.1, .ref a_ru, .ref a_me, .ref a_le, .int v_n, .ref a_cl, .ref a_te, .ref a_ki, .ref a_ty, .ref a_bl, .ref a_ex, .ref a_lo, .int v_nl, .ref a_ho, .ref a_fi, .int v_nf, .ref a_cz, .int v_nc])), (a_sa, .inl (k_sa, 120, .inl f_sa)), (a_ru, .inl (k_ru, 410, .inl x_69.2.2.2))]) [0, 1, 2] rfl
                          replace hD := hD.sub (ws' := [(a_m, .inr (5, [.int v_th, .ref a_sa, .int v_sz, .int x_69.2.1, .int x_69.2.2.1, .ref a_ru, .ref a_me, .ref a_le, .int v_n, .ref a_cl, .ref a_te, .ref a_ki, .ref a_ty, .ref a_bl, .ref a_ex, .ref a_lo, .int v_nl, .ref a_ho, .ref a_fi, .int v_nf, .ref a_cz, .int v_nc])), (a_sa, .inl (k_sa, 120, .inl f_sa)), (a_ru, .inl (k_ru, 410, .inl x_69.2.2.2))]) [0, 1, 2] (by decide) rfl
                          replace hK := hK.sub (tys' := [(k_sa, .byte), (k_ru, .int)]) [0, 1] rfl
                          refine lv_if_ne (tgt := 175) hx hb d_M_reads_170 (by decide) (fun c_70 => ?_) (fun c_70 => ?_)
                          · rw [if_neg c_70] at hg_rd1
                            refine lv_iload_n hx hb d_M_reads_175 rfl (lv_at hl 1 rfl) ?_
                            refine lv_istore_n (lv' := [(1, .int (g_Mg_step (g_Mg_word v_sz a f_sa))), (3, .int 1), (2, .int (g_Mg_step (g_Mg_word v_sz a f_sa))), (0, .ref a_m)]) hx hb d_M_reads_176 rfl hl (by decide) rfl (fun ls hl => ?_)
                            refine lv_goto (tgt := 56) hx hb d_M_reads_177 (by decide) ?_
                            exact ih_rd1 _ _ _ _ _ _ _ ⟨hP, hD, hS, lv_sub hl [0, 3] rfl, ((hg_x_69 ▸ one_at hsz (hg_x_66 ▸ pass_at hsz ha))), (step_le _), (li_mt hla c_10 (step_le _) hm_rd1), hg_rd1⟩
                          · rw [if_pos c_70] at hg_rd1
                            subst hg_rd1
                            dsimp only at hE
                            rw [if_neg (by decide)] at hE
                            rw [if_neg (by decide)] at hE
                            rw [if_neg (by decide)] at hE
                            refine lv_iconst (v := 0) hx hb d_M_reads_173 (by decide) ?_
                            have hP9 := hP.sub (ws' := [(a_m, .inr (5, [.int v_th, .ref a_sa, .int v_sz, .int x_69.2.1, .int x_69.2.2.1, .ref a_ru, .ref a_me, .ref a_le, .int v_n, .ref a_cl, .ref a_te, .ref a_ki, .ref a_ty, .ref a_bl, .ref a_ex, .ref a_lo, .int v_nl, .ref a_ho, .ref a_fi, .int v_nf, .ref a_cz, .int v_nc])), (a_sa, .inl (k_sa, 120, .inl f_sa)), (a_ru, .inl (k_ru, 410, .inl x_69.2.2.2))]) [0, 1, 2] rfl
                            have hD9 := hD.sub (ws' := [(a_m, .inr (5, [.int v_th, .ref a_sa, .int v_sz, .int x_69.2.1, .int x_69.2.2.1, .ref a_ru, .ref a_me, .ref a_le, .int v_n, .ref a_cl, .ref a_te, .ref a_ki, .ref a_ty, .ref a_bl, .ref a_ex, .ref a_lo, .int v_nl, .ref a_ho, .ref a_fi, .int v_nf, .ref a_cz, .int v_nc])), (a_sa, .inl (k_sa, 120, .inl f_sa)), (a_ru, .inl (k_ru, 410, .inl x_69.2.2.2))]) [0, 1, 2] (by decide) rfl
                            have hK9 := hK.sub (tys' := [(k_sa, .byte), (k_ru, .int)]) [0, 1] rfl
                            exact W.zret (v := 0) hx hb hr rfl (fun t ht hW => ⟨⟨0, (), rfl, by rw [← hz, hE], by rw [ht, ← hz, hE]; exact hP9, va_K.moved hW.alike hK9, by rw [← hz, hE]; exact hD9⟩, hS.F ht⟩) hS.2.2 d_M_reads_174
                        · exact absurd c_64 (by decide)
              · rw [if_neg c_17] at hg_rd1
                refine lv_iload_n hx hb d_M_reads_103 rfl (lv_at hl 0 rfl) ?_
                refine lv_bipush (v := 7) hx hb d_M_reads_104 (by decide) ?_
                refine lv_icmp_ge (tgt := 142) hx hb d_M_reads_106 (by decide) (fun c_71 => ?_) (fun c_71 => ?_)
                · rw [if_pos c_71] at hg_rd1
                  refine lv_iconst (v := 0) hx hb d_M_reads_142 (by decide) ?_
                  refine lv_istore_n (lv' := [(3, .int 0), (2, .int (g_Mg_step (g_Mg_word v_sz a f_sa))), (1, .int la), (0, .ref a_m)]) hx hb d_M_reads_143 rfl hl (by decide) rfl (fun ls hl => ?_)
                  refine lv_iload_n hx hb d_M_reads_144 rfl (lv_at hl 1 rfl) ?_
                  refine lv_if_eq (tgt := 152) hx hb d_M_reads_145 (by decide) (fun c_72 => ?_) (fun c_72 => ?_)
                  · subst hg_rd1
                    dsimp only at hE
                    rw [if_neg (by decide)] at hE
                    rw [if_neg (by decide)] at hE
                    rw [if_pos rfl] at hE
                    refine lv_aload_n hx hb d_M_reads_152 rfl (lv_at hl 3 rfl) ?_
                    refine lv_aload_n hx hb d_M_reads_153 rfl (lv_at hl 3 rfl) ?_
                    refine va_get (D := (dC, dI)) (ci := 5) (v := .int a) (C := "LoanRulesModel") (T := Fz_M) (N := 22) hx hb hts it_M hown hK hP 0 rfl rfl 3 (by decide) (hts _ tw_604) (fun _ h9 => h9) rfl d_M_reads_154 ?_
                    have hPc := hP.sub (ws' := [(a_m, .inr (5, [.int v_th, .ref a_sa, .int v_sz, .int a, .int wr, .ref a_ru, .ref a_me, .ref a_le, .int v_n, .ref a_cl, .ref a_te, .ref a_ki, .ref a_ty, .ref a_bl, .ref a_ex, .ref a_lo, .int v_nl, .ref a_ho, .ref a_fi, .int v_nf, .ref a_cz, .int v_nc]))]) [0] rfl
                    have hKc := hK.sub (tys' := []) [] rfl
                    have hDc := hD.sub (ws' := [(a_m, .inr (5, [.int v_th, .ref a_sa, .int v_sz, .int a, .int wr, .ref a_ru, .ref a_me, .ref a_le, .int v_n, .ref a_cl, .ref a_te, .ref a_ki, .ref a_ty, .ref a_bl, .ref a_ex, .ref a_lo, .int v_nl, .ref a_ho, .ref a_fi, .int v_nf, .ref a_cz, .int v_nc]))]) [0] (by decide) rfl
                    have hFc := va_free (wc := [(a_m, .inr (5, [.int v_th, .ref a_sa, .int v_sz, .int a, .int wr, .ref a_ru, .ref a_me, .ref a_le, .int v_n, .ref a_cl, .ref a_te, .ref a_ki, .ref a_ty, .ref a_bl, .ref a_ex, .ref a_lo, .int v_nl, .ref a_ho, .ref a_fi, .int v_nf, .ref a_cz, .int v_nc]))]) hD hS hA [0] rfl
                    refine va_calli (va_runV (As := [.int a]) (rest := []) ⟨hx, hb, hml, hown, hts⟩ (c_Mg_bad l dC dI adK adV (a_m := a_m) (p0 := a) (v_th := v_th) (a_sa := a_sa) (v_sz := v_sz) (v_at := a) (v_wr := wr) (a_ru := a_ru) (a_me := a_me) (a_le := a_le) (v_n := v_n) (a_cl := a_cl) (a_te := a_te) (a_ki := a_ki) (a_ty := a_ty) (a_bl := a_bl) (a_ex := a_ex) (a_lo := a_lo) (v_nl := v_nl) (a_ho := a_ho) (a_fi := a_fi) (v_nf := v_nf) (a_cz := a_cz) (v_nc := v_nc) (sz := H.size)) (cwV 1 hts (gV tw_688 tw_690 tw_28 tw_46 tw_691) rfl rfl rfl (by decide +kernel) ⟨(Nat.le_of_ble_eq_true rfl), (Nat.le_of_ble_eq_true rfl)⟩) ⟨fun a U g mk q => by obtain ⟨q0, q1, qZ, qP, qK, qD⟩ := q; exact ⟨q0, q1, zz_call qZ, qP, va_K.moved (u := U) (U := U.calling g mk a) (Vm.Alike.refl U.vm) qK, qD⟩, va_recv hKc hPc (ci := 5) (q0 := 0) rfl rfl, fun U hU hW => ⟨rfl, by rw [hU], zz_rw hS hFc hU hW hZ, by rw [hU]; exact hPc, va_K.moved hW.alike hKc, hDc.weaken (fun _ _ _ _ => trivial)⟩⟩ rfl rfl hl.1 rfl (lv_room (Nat.le_of_ble_eq_true rfl)) d_M_reads_157 ⟨(Nat.le_of_ble_eq_true rfl), (Nat.le_of_ble_eq_true rfl)⟩) hS (fun q _ h => hFc q h) hFc (fun r_73 u t H1 locs ht hvm hw_74 hB hz1 hk1 hS => ?_)
                    obtain ⟨hP1, hK1, hD1⟩ := hB
                    rw [ht] at hP1
                    have hK1 := va_K.moved hvm.symm hK1
                    obtain rfl : r_73 = 0 := hw_74
                    obtain ⟨hP, hD⟩ := va_join (wr := [(a_sa, .inl (k_sa, 120, .inl f_sa)), (a_ru, .inl (k_ru, 410, .inl R))]) (w1 := [(a_m, .inr (5, [.int v_th, .ref a_sa, .int v_sz, .int a, .int a, .ref a_ru, .ref a_me, .ref a_le, .int v_n, .ref a_cl, .ref a_te, .ref a_ki, .ref a_ty, .ref a_bl, .ref a_ex, .ref a_lo, .int v_nl, .ref a_ho, .ref a_fi, .int v_nf, .ref a_cz, .int v_nc]))]) hP hD [0] [1, 2] rfl rfl (by decide) (by decide) hk1 hFc hP1 hD1
                    replace hK := (hK.sub (tys' := [(k_sa, .byte), (k_ru, .int)]) [0, 1] rfl).app hK1
                    generalize H1 = H at hP hS ⊢
                    replace hP := hP.sub (ws' := [(a_m, .inr (5, [.int v_th, .ref a_sa, .int v_sz, .int a, .int a, .ref a_ru, .ref a_me, .ref a_le, .int v_n, .ref a_cl, .ref a_te, .ref a_ki, .ref a_ty, .ref a_bl, .ref a_ex, .ref a_lo, .int v_nl, .ref a_ho, .ref a_fi, .int v_nf, .ref a_cz, .int v_nc])), (a_sa, .inl (k_sa, 120, .inl f_sa)), (a_ru, .inl (k_ru, 410, .inl R))]) [2, 0, 1] rfl
                    replace hD := hD.sub (ws' := [(a_m, .inr (5, [.int v_th, .ref a_sa, .int v_sz, .int a, .int a, .ref a_ru, .ref a_me, .ref a_le, .int v_n, .ref a_cl, .ref a_te, .ref a_ki, .ref a_ty, .ref a_bl, .ref a_ex, .ref a_lo, .int v_nl, .ref a_ho, .ref a_fi, .int v_nf, .ref a_cz, .int v_nc])), (a_sa, .inl (k_sa, 120, .inl f_sa)), (a_ru, .inl (k_ru, 410, .inl R))]) [2, 0, 1] (by decide) rfl
                    replace hK := hK.sub (tys' := [(k_sa, .byte), (k_ru, .int)]) [0, 1] rfl
                    have hP9 := hP.sub (ws' := [(a_m, .inr (5, [.int v_th, .ref a_sa, .int v_sz, .int a, .int a, .ref a_ru, .ref a_me, .ref a_le, .int v_n, .ref a_cl, .ref a_te, .ref a_ki, .ref a_ty, .ref a_bl, .ref a_ex, .ref a_lo, .int v_nl, .ref a_ho, .ref a_fi, .int v_nf, .ref a_cz, .int v_nc])), (a_sa, .inl (k_sa, 120, .inl f_sa)), (a_ru, .inl (k_ru, 410, .inl R))]) [0, 1, 2] rfl
                    have hD9 := hD.sub (ws' := [(a_m, .inr (5, [.int v_th, .ref a_sa, .int v_sz, .int a, .int a, .ref a_ru, .ref a_me, .ref a_le, .int v_n, .ref a_cl, .ref a_te, .ref a_ki, .ref a_ty, .ref a_bl, .ref a_ex, .ref a_lo, .int v_nl, .ref a_ho, .ref a_fi, .int v_nf, .ref a_cz, .int v_nc])), (a_sa, .inl (k_sa, 120, .inl f_sa)), (a_ru, .inl (k_ru, 410, .inl R))]) [0, 1, 2] (by decide) rfl
                    have hK9 := hK.sub (tys' := [(k_sa, .byte), (k_ru, .int)]) [0, 1] rfl
                    exact W.zret (v := 0) hx hb hr rfl (fun t ht hW => ⟨⟨0, (), rfl, by rw [← hz, hE], by rw [ht, ← hz, hE]; exact hP9, va_K.moved hW.alike hK9, by rw [← hz, hE]; exact hD9⟩, hS.F ht⟩) hS.2.2 d_M_reads_160
                  · refine lv_iload_n hx hb d_M_reads_148 rfl (lv_at hl 0 rfl) ?_
                    refine lv_if_ne (tgt := 161) hx hb d_M_reads_149 (by decide) (fun c_75 => ?_) (fun c_75 => ?_)
                    · exact absurd (by decide) c_75
                    · subst hg_rd1
                      dsimp only at hE
                      rw [if_neg (by decide)] at hE
                      rw [if_neg (by decide)] at hE
                      rw [if_pos rfl] at hE
                      refine lv_aload_n hx hb d_M_reads_152 rfl (lv_at hl 3 rfl) ?_
                      refine lv_aload_n hx hb d_M_reads_153 rfl (lv_at hl 3 rfl) ?_
                      refine va_get (D := (dC, dI)) (ci := 5) (v := .int a) (C := "LoanRulesModel") (T := Fz_M) (N := 22) hx hb hts it_M hown hK hP 0 rfl rfl 3 (by decide) (hts _ tw_604) (fun _ h9 => h9) rfl d_M_reads_154 ?_
                      have hPc := hP.sub (ws' := [(a_m, .inr (5, [.int v_th, .ref a_sa, .int v_sz, .int a, .int wr, .ref a_ru, .ref a_me, .ref a_le, .int v_n, .ref a_cl, .ref a_te, .ref a_ki, .ref a_ty, .ref a_bl, .ref a_ex, .ref a_lo, .int v_nl, .ref a_ho, .ref a_fi, .int v_nf, .ref a_cz, .int v_nc]))]) [0] rfl
                      have hKc := hK.sub (tys' := []) [] rfl
                      have hDc := hD.sub (ws' := [(a_m, .inr (5, [.int v_th, .ref a_sa, .int v_sz, .int a, .int wr, .ref a_ru, .ref a_me, .ref a_le, .int v_n, .ref a_cl, .ref a_te, .ref a_ki, .ref a_ty, .ref a_bl, .ref a_ex, .ref a_lo, .int v_nl, .ref a_ho, .ref a_fi, .int v_nf, .ref a_cz, .int v_nc]))]) [0] (by decide) rfl
                      have hFc := va_free (wc := [(a_m, .inr (5, [.int v_th, .ref a_sa, .int v_sz, .int a, .int wr, .ref a_ru, .ref a_me, .ref a_le, .int v_n, .ref a_cl, .ref a_te, .ref a_ki, .ref a_ty, .ref a_bl, .ref a_ex, .ref a_lo, .int v_nl, .ref a_ho, .ref a_fi, .int v_nf, .ref a_cz, .int v_nc]))]) hD hS hA [0] rfl
                      refine va_calli (va_runV (As := [.int a]) (rest := []) ⟨hx, hb, hml, hown, hts⟩ (c_Mg_bad l dC dI adK adV (a_m := a_m) (p0 := a) (v_th := v_th) (a_sa := a_sa) (v_sz := v_sz) (v_at := a) (v_wr := wr) (a_ru := a_ru) (a_me := a_me) (a_le := a_le) (v_n := v_n) (a_cl := a_cl) (a_te := a_te) (a_ki := a_ki) (a_ty := a_ty) (a_bl := a_bl) (a_ex := a_ex) (a_lo := a_lo) (v_nl := v_nl) (a_ho := a_ho) (a_fi := a_fi) (v_nf := v_nf) (a_cz := a_cz) (v_nc := v_nc) (sz := H.size)) (cwV 1 hts (gV tw_688 tw_690 tw_28 tw_46 tw_691) rfl rfl rfl (by decide +kernel) ⟨(Nat.le_of_ble_eq_true rfl), (Nat.le_of_ble_eq_true rfl)⟩) ⟨fun a U g mk q => by obtain ⟨q0, q1, qZ, qP, qK, qD⟩ := q; exact ⟨q0, q1, zz_call qZ, qP, va_K.moved (u := U) (U := U.calling g mk a) (Vm.Alike.refl U.vm) qK, qD⟩, va_recv hKc hPc (ci := 5) (q0 := 0) rfl rfl, fun U hU hW => ⟨rfl, by rw [hU], zz_rw hS hFc hU hW hZ, by rw [hU]; exact hPc, va_K.moved hW.alike hKc, hDc.weaken (fun _ _ _ _ => trivial)⟩⟩ rfl rfl hl.1 rfl (lv_room (Nat.le_of_ble_eq_true rfl)) d_M_reads_157 ⟨(Nat.le_of_ble_eq_true rfl), (Nat.le_of_ble_eq_true rfl)⟩) hS (fun q _ h => hFc q h) hFc (fun r_76 u t H1 locs ht hvm hw_77 hB hz1 hk1 hS => ?_)
                      obtain ⟨hP1, hK1, hD1⟩ := hB
                      rw [ht] at hP1
                      have hK1 := va_K.moved hvm.symm hK1
                      obtain rfl : r_76 = 0 := hw_77
                      obtain ⟨hP, hD⟩ := va_join (wr := [(a_sa, .inl (k_sa, 120, .inl f_sa)), (a_ru, .inl (k_ru, 410, .inl R))]) (w1 := [(a_m, .inr (5, [.int v_th, .ref a_sa, .int v_sz, .int a, .int a, .ref a_ru, .ref a_me, .ref a_le, .int v_n, .ref a_cl, .ref a_te, .ref a_ki, .ref a_ty, .ref a_bl, .ref a_ex, .ref a_lo, .int v_nl, .ref a_ho, .ref a_fi, .int v_nf, .ref a_cz, .int v_nc]))]) hP hD [0] [1, 2] rfl rfl (by decide) (by decide) hk1 hFc hP1 hD1
                      replace hK := (hK.sub (tys' := [(k_sa, .byte), (k_ru, .int)]) [0, 1] rfl).app hK1
                      generalize H1 = H at hP hS ⊢
                      replace hP := hP.sub (ws' := [(a_m, .inr (5, [.int v_th, .ref a_sa, .int v_sz, .int a, .int a, .ref a_ru, .ref a_me, .ref a_le, .int v_n, .ref a_cl, .ref a_te, .ref a_ki, .ref a_ty, .ref a_bl, .ref a_ex, .ref a_lo, .int v_nl, .ref a_ho, .ref a_fi, .int v_nf, .ref a_cz, .int v_nc])), (a_sa, .inl (k_sa, 120, .inl f_sa)), (a_ru, .inl (k_ru, 410, .inl R))]) [2, 0, 1] rfl
                      replace hD := hD.sub (ws' := [(a_m, .inr (5, [.int v_th, .ref a_sa, .int v_sz, .int a, .int a, .ref a_ru, .ref a_me, .ref a_le, .int v_n, .ref a_cl, .ref a_te, .ref a_ki, .ref a_ty, .ref a_bl, .ref a_ex, .ref a_lo, .int v_nl, .ref a_ho, .ref a_fi, .int v_nf, .ref a_cz, .int v_nc])), (a_sa, .inl (k_sa, 120, .inl f_sa)), (a_ru, .inl (k_ru, 410, .inl R))]) [2, 0, 1] (by decide) rfl
                      replace hK := hK.sub (tys' := [(k_sa, .byte), (k_ru, .int)]) [0, 1] rfl
                      have hP9 := hP.sub (ws' := [(a_m, .inr (5, [.int v_th, .ref a_sa, .int v_sz, .int a, .int a, .ref a_ru, .ref a_me, .ref a_le, .int v_n, .ref a_cl, .ref a_te, .ref a_ki, .ref a_ty, .ref a_bl, .ref a_ex, .ref a_lo, .int v_nl, .ref a_ho, .ref a_fi, .int v_nf, .ref a_cz, .int v_nc])), (a_sa, .inl (k_sa, 120, .inl f_sa)), (a_ru, .inl (k_ru, 410, .inl R))]) [0, 1, 2] rfl
                      have hD9 := hD.sub (ws' := [(a_m, .inr (5, [.int v_th, .ref a_sa, .int v_sz, .int a, .int a, .ref a_ru, .ref a_me, .ref a_le, .int v_n, .ref a_cl, .ref a_te, .ref a_ki, .ref a_ty, .ref a_bl, .ref a_ex, .ref a_lo, .int v_nl, .ref a_ho, .ref a_fi, .int v_nf, .ref a_cz, .int v_nc])), (a_sa, .inl (k_sa, 120, .inl f_sa)), (a_ru, .inl (k_ru, 410, .inl R))]) [0, 1, 2] (by decide) rfl
                      have hK9 := hK.sub (tys' := [(k_sa, .byte), (k_ru, .int)]) [0, 1] rfl
                      exact W.zret (v := 0) hx hb hr rfl (fun t ht hW => ⟨⟨0, (), rfl, by rw [← hz, hE], by rw [ht, ← hz, hE]; exact hP9, va_K.moved hW.alike hK9, by rw [← hz, hE]; exact hD9⟩, hS.F ht⟩) hS.2.2 d_M_reads_160
                · rw [if_neg c_71] at hg_rd1
                  refine lv_goto (tgt := 138) hx hb d_M_reads_109 (by decide) ?_
                  refine lv_iconst (v := 1) hx hb d_M_reads_138 (by decide) ?_
                  refine lv_goto (tgt := 143) hx hb d_M_reads_139 (by decide) ?_
                  refine lv_istore_n (lv' := [(3, .int 1), (2, .int (g_Mg_step (g_Mg_word v_sz a f_sa))), (1, .int la), (0, .ref a_m)]) hx hb d_M_reads_143 rfl hl (by decide) rfl (fun ls hl => ?_)
                  refine lv_iload_n hx hb d_M_reads_144 rfl (lv_at hl 1 rfl) ?_
                  refine lv_if_eq (tgt := 152) hx hb d_M_reads_145 (by decide) (fun c_78 => ?_) (fun c_78 => ?_)
                  · rw [if_pos c_78] at hg_rd1
                    subst hg_rd1
                    dsimp only at hE
                    rw [if_neg (by decide)] at hE
                    rw [if_neg (by decide)] at hE
                    rw [if_pos rfl] at hE
                    refine lv_aload_n hx hb d_M_reads_152 rfl (lv_at hl 3 rfl) ?_
                    refine lv_aload_n hx hb d_M_reads_153 rfl (lv_at hl 3 rfl) ?_
                    refine va_get (D := (dC, dI)) (ci := 5) (v := .int a) (C := "LoanRulesModel") (T := Fz_M) (N := 22) hx hb hts it_M hown hK hP 0 rfl rfl 3 (by decide) (hts _ tw_604) (fun _ h9 => h9) rfl d_M_reads_154 ?_
                    have hPc := hP.sub (ws' := [(a_m, .inr (5, [.int v_th, .ref a_sa, .int v_sz, .int a, .int wr, .ref a_ru, .ref a_me, .ref a_le, .int v_n, .ref a_cl, .ref a_te, .ref a_ki, .ref a_ty, .ref a_bl, .ref a_ex, .ref a_lo, .int v_nl, .ref a_ho, .ref a_fi, .int v_nf, .ref a_cz, .int v_nc]))]) [0] rfl
                    have hKc := hK.sub (tys' := []) [] rfl
                    have hDc := hD.sub (ws' := [(a_m, .inr (5, [.int v_th, .ref a_sa, .int v_sz, .int a, .int wr, .ref a_ru, .ref a_me, .ref a_le, .int v_n, .ref a_cl, .ref a_te, .ref a_ki, .ref a_ty, .ref a_bl, .ref a_ex, .ref a_lo, .int v_nl, .ref a_ho, .ref a_fi, .int v_nf, .ref a_cz, .int v_nc]))]) [0] (by decide) rfl
                    have hFc := va_free (wc := [(a_m, .inr (5, [.int v_th, .ref a_sa, .int v_sz, .int a, .int wr, .ref a_ru, .ref a_me, .ref a_le, .int v_n, .ref a_cl, .ref a_te, .ref a_ki, .ref a_ty, .ref a_bl, .ref a_ex, .ref a_lo, .int v_nl, .ref a_ho, .ref a_fi, .int v_nf, .ref a_cz, .int v_nc]))]) hD hS hA [0] rfl
                    refine va_calli (va_runV (As := [.int a]) (rest := []) ⟨hx, hb, hml, hown, hts⟩ (c_Mg_bad l dC dI adK adV (a_m := a_m) (p0 := a) (v_th := v_th) (a_sa := a_sa) (v_sz := v_sz) (v_at := a) (v_wr := wr) (a_ru := a_ru) (a_me := a_me) (a_le := a_le) (v_n := v_n) (a_cl := a_cl) (a_te := a_te) (a_ki := a_ki) (a_ty := a_ty) (a_bl := a_bl) (a_ex := a_ex) (a_lo := a_lo) (v_nl := v_nl) (a_ho := a_ho) (a_fi := a_fi) (v_nf := v_nf) (a_cz := a_cz) (v_nc := v_nc) (sz := H.size)) (cwV 1 hts (gV tw_688 tw_690 tw_28 tw_46 tw_691) rfl rfl rfl (by decide +kernel) ⟨(Nat.le_of_ble_eq_true rfl), (Nat.le_of_ble_eq_true rfl)⟩) ⟨fun a U g mk q => by obtain ⟨q0, q1, qZ, qP, qK, qD⟩ := q; exact ⟨q0, q1, zz_call qZ, qP, va_K.moved (u := U) (U := U.calling g mk a) (Vm.Alike.refl U.vm) qK, qD⟩, va_recv hKc hPc (ci := 5) (q0 := 0) rfl rfl, fun U hU hW => ⟨rfl, by rw [hU], zz_rw hS hFc hU hW hZ, by rw [hU]; exact hPc, va_K.moved hW.alike hKc, hDc.weaken (fun _ _ _ _ => trivial)⟩⟩ rfl rfl hl.1 rfl (lv_room (Nat.le_of_ble_eq_true rfl)) d_M_reads_157 ⟨(Nat.le_of_ble_eq_true rfl), (Nat.le_of_ble_eq_true rfl)⟩) hS (fun q _ h => hFc q h) hFc (fun r_79 u t H1 locs ht hvm hw_80 hB hz1 hk1 hS => ?_)
                    obtain ⟨hP1, hK1, hD1⟩ := hB
                    rw [ht] at hP1
                    have hK1 := va_K.moved hvm.symm hK1
                    obtain rfl : r_79 = 0 := hw_80
                    obtain ⟨hP, hD⟩ := va_join (wr := [(a_sa, .inl (k_sa, 120, .inl f_sa)), (a_ru, .inl (k_ru, 410, .inl R))]) (w1 := [(a_m, .inr (5, [.int v_th, .ref a_sa, .int v_sz, .int a, .int a, .ref a_ru, .ref a_me, .ref a_le, .int v_n, .ref a_cl, .ref a_te, .ref a_ki, .ref a_ty, .ref a_bl, .ref a_ex, .ref a_lo, .int v_nl, .ref a_ho, .ref a_fi, .int v_nf, .ref a_cz, .int v_nc]))]) hP hD [0] [1, 2] rfl rfl (by decide) (by decide) hk1 hFc hP1 hD1
                    replace hK := (hK.sub (tys' := [(k_sa, .byte), (k_ru, .int)]) [0, 1] rfl).app hK1
                    generalize H1 = H at hP hS ⊢
                    replace hP := hP.sub (ws' := [(a_m, .inr (5, [.int v_th, .ref a_sa, .int v_sz, .int a, .int a, .ref a_ru, .ref a_me, .ref a_le, .int v_n, .ref a_cl, .ref a_te, .ref a_ki, .ref a_ty, .ref a_bl, .ref a_ex, .ref a_lo, .int v_nl, .ref a_ho, .ref a_fi, .int v_nf, .ref a_cz, .int v_nc])), (a_sa, .inl (k_sa, 120, .inl f_sa)), (a_ru, .inl (k_ru, 410, .inl R))]) [2, 0, 1] rfl
                    replace hD := hD.sub (ws' := [(a_m, .inr (5, [.int v_th, .ref a_sa, .int v_sz, .int a, .int a, .ref a_ru, .ref a_me, .ref a_le, .int v_n, .ref a_cl, .ref a_te, .ref a_ki, .ref a_ty, .ref a_bl, .ref a_ex, .ref a_lo, .int v_nl, .ref a_ho, .ref a_fi, .int v_nf, .ref a_cz, .int v_nc])), (a_sa, .inl (k_sa, 120, .inl f_sa)), (a_ru, .inl (k_ru, 410, .inl R))]) [2, 0, 1] (by decide) rfl
                    replace hK := hK.sub (tys' := [(k_sa, .byte), (k_ru, .int)]) [0, 1] rfl
                    have hP9 := hP.sub (ws' := [(a_m, .inr (5, [.int v_th, .ref a_sa, .int v_sz, .int a, .int a, .ref a_ru, .ref a_me, .ref a_le, .int v_n, .ref a_cl, .ref a_te, .ref a_ki, .ref a_ty, .ref a_bl, .ref a_ex, .ref a_lo, .int v_nl, .ref a_ho, .ref a_fi, .int v_nf, .ref a_cz, .int v_nc])), (a_sa, .inl (k_sa, 120, .inl f_sa)), (a_ru, .inl (k_ru, 410, .inl R))]) [0, 1, 2] rfl
                    have hD9 := hD.sub (ws' := [(a_m, .inr (5, [.int v_th, .ref a_sa, .int v_sz, .int a, .int a, .ref a_ru, .ref a_me, .ref a_le, .int v_n, .ref a_cl, .ref a_te, .ref a_ki, .ref a_ty, .ref a_bl, .ref a_ex, .ref a_lo, .int v_nl, .ref a_ho, .ref a_fi, .int v_nf, .ref a_cz, .int v_nc])), (a_sa, .inl (k_sa, 120, .inl f_sa)), (a_ru, .inl (k_ru, 410, .inl R))]) [0, 1, 2] (by decide) rfl
                    have hK9 := hK.sub (tys' := [(k_sa, .byte), (k_ru, .int)]) [0, 1] rfl
                    exact W.zret (v := 0) hx hb hr rfl (fun t ht hW => ⟨⟨0, (), rfl, by rw [← hz, hE], by rw [ht, ← hz, hE]; exact hP9, va_K.moved hW.alike hK9, by rw [← hz, hE]; exact hD9⟩, hS.F ht⟩) hS.2.2 d_M_reads_160
                  · rw [if_neg c_78] at hg_rd1
                    refine lv_iload_n hx hb d_M_reads_148 rfl (lv_at hl 0 rfl) ?_
                    refine lv_if_ne (tgt := 161) hx hb d_M_reads_149 (by decide) (fun c_81 => ?_) (fun c_81 => ?_)
                    · refine lv_aload_n hx hb d_M_reads_161 rfl (lv_at hl 3 rfl) ?_
                      have hPc := hP.sub (ws' := [(a_m, .inr (5, [.int v_th, .ref a_sa, .int v_sz, .int a, .int wr, .ref a_ru, .ref a_me, .ref a_le, .int v_n, .ref a_cl, .ref a_te, .ref a_ki, .ref a_ty, .ref a_bl, .ref a_ex, .ref a_lo, .int v_nl, .ref a_ho, .ref a_fi, .int v_nf, .ref a_cz, .int v_nc])), (a_sa, .inl (k_sa, 120, .inl f_sa))]) [0, 1] rfl
                      have hKc := hK.sub (tys' := [(k_sa, .byte)]) [0] rfl
                      have hDc := hD.sub (ws' := [(a_m, .inr (5, [.int v_th, .ref a_sa, .int v_sz, .int a, .int wr, .ref a_ru, .ref a_me, .ref a_le, .int v_n, .ref a_cl, .ref a_te, .ref a_ki, .ref a_ty, .ref a_bl, .ref a_ex, .ref a_lo, .int v_nl, .ref a_ho, .ref a_fi, .int v_nf, .ref a_cz, .int v_nc])), (a_sa, .inl (k_sa, 120, .inl f_sa))]) [0, 1] (by decide) rfl
                      have hFc := va_free (wc := [(a_m, .inr (5, [.int v_th, .ref a_sa, .int v_sz, .int a, .int wr, .ref a_ru, .ref a_me, .ref a_le, .int v_n, .ref a_cl, .ref a_te, .ref a_ki, .ref a_ty, .ref a_bl, .ref a_ex, .ref a_lo, .int v_nl, .ref a_ho, .ref a_fi, .int v_nf, .ref a_cz, .int v_nc])), (a_sa, .inl (k_sa, 120, .inl f_sa))]) hD hS hA [0, 1] rfl
                      refine va_callv (va_runV (As := []) (rest := []) ⟨hx, hb, hml, hown, hts⟩ (c_Mg_pass l dC dI adK adV (a_m := a_m) (v_th := v_th) (a_sa := a_sa) (v_sz := v_sz) (v_at := a) (v_wr := wr) (a_ru := a_ru) (a_me := a_me) (a_le := a_le) (v_n := v_n) (a_cl := a_cl) (a_te := a_te) (a_ki := a_ki) (a_ty := a_ty) (a_bl := a_bl) (a_ex := a_ex) (a_lo := a_lo) (v_nl := v_nl) (a_ho := a_ho) (a_fi := a_fi) (v_nf := v_nf) (a_cz := a_cz) (v_nc := v_nc) (k_sa := k_sa) (f_sa := f_sa) (sz := H.size) hsz ha) (cwV 0 hts (gV tw_712 tw_714 tw_30 tw_46 tw_715) rfl rfl rfl (by decide +kernel) ⟨(Nat.le_of_ble_eq_true rfl), (Nat.le_of_ble_eq_true rfl)⟩) ⟨fun a U g mk q => by obtain ⟨q0, q1, qZ, qP, qK, qD⟩ := q; exact ⟨q0, q1, zz_call qZ, qP, va_K.moved (u := U) (U := U.calling g mk a) (Vm.Alike.refl U.vm) qK, qD⟩, va_recv hKc hPc (ci := 5) (q0 := 0) rfl rfl, fun U hU hW => ⟨rfl, by rw [hU], zz_rw hS hFc hU hW hZ, by rw [hU]; exact hPc, va_K.moved hW.alike hKc, hDc.weaken (fun _ _ _ _ => trivial)⟩⟩ rfl rfl hl.1 rfl (lv_room (Nat.le_of_ble_eq_true rfl)) d_M_reads_162 ⟨(Nat.le_of_ble_eq_true rfl), (Nat.le_of_ble_eq_true rfl)⟩) hS (fun q _ h => hFc q h) hFc (fun u t H1 locs ht hvm hw_82 hB hz1 hk1 hS => ?_)
                      generalize hg_x_83 : g_Mg_pass v_sz a f_sa = x_83 at hw_82 hB hg_rd1
                      rw [bv_eq] at hg_rd1
                      obtain ⟨hP1, hK1, hD1⟩ := hB
                      rw [ht] at hP1
                      have hK1 := va_K.moved hvm.symm hK1
                      obtain ⟨hP, hD⟩ := va_join (wr := [(a_ru, .inl (k_ru, 410, .inl R))]) (w1 := [(a_m, .inr (5, [.int v_th, .ref a_sa, .int v_sz, .int x_83, .int wr, .ref a_ru, .ref a_me, .ref a_le, .int v_n, .ref a_cl, .ref a_te, .ref a_ki, .ref a_ty, .ref a_bl, .ref a_ex, .ref a_lo, .int v_nl, .ref a_ho, .ref a_fi, .int v_nf, .ref a_cz, .int v_nc])), (a_sa, .inl (k_sa, 120, .inl f_sa))]) hP hD [0, 1] [2] rfl rfl (by decide) (by decide) hk1 hFc hP1 hD1
                      replace hK := (hK.sub (tys' := [(k_ru, .int)]) [1] rfl).app hK1
                      generalize H1 = H at hP hS ⊢
                      replace hP := hP.sub (ws' := [(a_m, .inr (5, [.int v_th, .ref a_sa, .int v_sz, .int x_83, .int wr, .ref a_ru, .ref a_me, .ref a_le, .int v_n, .ref a_cl, .ref a_te, .ref a_ki, .ref a_ty, .ref a_bl, .ref a_ex, .ref a_lo, .int v_nl, .ref a_ho, .ref a_fi, .int v_nf, .ref a_cz, .int v_nc])), (a_sa, .inl (k_sa, 120, .inl f_sa)), (a_ru, .inl (k_ru, 410, .inl R))]) [1, 2, 0] rfl
                      replace hD := hD.sub (ws' := [(a_m, .inr (5, [.int v_th, .ref a_sa, .int v_sz, .int x_83, .int wr, .ref a_ru, .ref a_me, .ref a_le, .int v_n, .ref a_cl, .ref a_te, .ref a_ki, .ref a_ty, .ref a_bl, .ref a_ex, .ref a_lo, .int v_nl, .ref a_ho, .ref a_fi, .int v_nf, .ref a_cz, .int v_nc])), (a_sa, .inl (k_sa, 120, .inl f_sa)), (a_ru, .inl (k_ru, 410, .inl R))]) [1, 2, 0] (by decide) rfl
                      replace hK := hK.sub (tys' := [(k_sa, .byte), (k_ru, .int)]) [1, 0] rfl
                      refine lv_aload_n hx hb d_M_reads_165 rfl (lv_at hl 3 rfl) ?_
                      refine lv_iload_n hx hb d_M_reads_166 rfl (lv_at hl 1 rfl) ?_
                      have hPc := hP.sub (ws' := [(a_m, .inr (5, [.int v_th, .ref a_sa, .int v_sz, .int x_83, .int wr, .ref a_ru, .ref a_me, .ref a_le, .int v_n, .ref a_cl, .ref a_te, .ref a_ki, .ref a_ty, .ref a_bl, .ref a_ex, .ref a_lo, .int v_nl, .ref a_ho, .ref a_fi, .int v_nf, .ref a_cz, .int v_nc])), (a_sa, .inl (k_sa, 120, .inl f_sa)), (a_ru, .inl (k_ru, 410, .inl R))]) [0, 1, 2] rfl
                      have hKc := hK.sub (tys' := [(k_sa, .byte), (k_ru, .int)]) [0, 1] rfl
                      have hDc := hD.sub (ws' := [(a_m, .inr (5, [.int v_th, .ref a_sa, .int v_sz, .int x_83, .int wr, .ref a_ru, .ref a_me, .ref a_le, .int v_n, .ref a_cl, .ref a_te, .ref a_ki, .ref a_ty, .ref a_bl, .ref a_ex, .ref a_lo, .int v_nl, .ref a_ho, .ref a_fi, .int v_nf, .ref a_cz, .int v_nc])), (a_sa, .inl (k_sa, 120, .inl f_sa)), (a_ru, .inl (k_ru, 410, .inl R))]) [0, 1, 2] (by decide) rfl
                      have hFc := va_free (wc := [(a_m, .inr (5, [.int v_th, .ref a_sa, .int v_sz, .int x_83, .int wr, .ref a_ru, .ref a_me, .ref a_le, .int v_n, .ref a_cl, .ref a_te, .ref a_ki, .ref a_ty, .ref a_bl, .ref a_ex, .ref a_lo, .int v_nl, .ref a_ho, .ref a_fi, .int v_nf, .ref a_cz, .int v_nc])), (a_sa, .inl (k_sa, 120, .inl f_sa)), (a_ru, .inl (k_ru, 410, .inl R))]) hD hS hA [0, 1, 2] rfl
                      refine va_calli (va_runV (As := [.int (g_Mg_step (g_Mg_word v_sz a f_sa))]) (rest := []) ⟨hx, hb, hml, hown, hts⟩ (c_Mg_one l dC dI adK adV (a_m := a_m) (p0 := g_Mg_step (g_Mg_word v_sz a f_sa)) (v_th := v_th) (a_sa := a_sa) (v_sz := v_sz) (v_at := x_83) (v_wr := wr) (a_ru := a_ru) (a_me := a_me) (a_le := a_le) (v_n := v_n) (a_cl := a_cl) (a_te := a_te) (a_ki := a_ki) (a_ty := a_ty) (a_bl := a_bl) (a_ex := a_ex) (a_lo := a_lo) (v_nl := v_nl) (a_ho := a_ho) (a_fi := a_fi) (v_nf := v_nf) (a_cz := a_cz) (v_nc := v_nc) (k_sa := k_sa) (f_sa := f_sa) (k_ru := k_ru) (f_ru := R) (sz := H.size) hsz (hg_x_83 ▸ pass_at hsz ha) hn) (cwV 1 hts (gV tw_716 tw_718 tw_31 tw_46 tw_719) rfl rfl rfl (by decide +kernel) ⟨(Nat.le_of_ble_eq_true rfl), (Nat.le_of_ble_eq_true rfl)⟩) ⟨fun a U g mk q => by obtain ⟨q0, q1, qZ, qP, qK, qD⟩ := q; exact ⟨q0, q1, zz_call qZ, qP, va_K.moved (u := U) (U := U.calling g mk a) (Vm.Alike.refl U.vm) qK, qD⟩, va_recv hKc hPc (ci := 5) (q0 := 0) rfl rfl, fun U hU hW => ⟨rfl, by rw [hU], zz_rw hS hFc hU hW hZ, by rw [hU]; exact hPc, va_K.moved hW.alike hKc, hDc.weaken (fun _ _ _ _ => trivial)⟩⟩ rfl rfl hl.1 rfl (lv_room (Nat.le_of_ble_eq_true rfl)) d_M_reads_167 ⟨(Nat.le_of_ble_eq_true rfl), (Nat.le_of_ble_eq_true rfl)⟩) hS (fun q _ h => hFc q h) hFc (fun r_84 u t H1 locs ht hvm hw_85 hB hz1 hk1 hS => ?_)
                      generalize hg_x_86 : g_Mg_one (g_Mg_step (g_Mg_word v_sz a f_sa)) v_sz x_83 wr v_n f_sa R = x_86 at hw_85 hB hg_rd1
                      rw [bv_eq] at hg_rd1
                      obtain ⟨hP1, hK1, hD1⟩ := hB
                      rw [ht] at hP1
                      have hK1 := va_K.moved hvm.symm hK1
                      obtain rfl : r_84 = x_86.1 := hw_85
                      obtain ⟨hP, hD⟩ := va_join (wr := []) (w1 := [(a_m, .inr (5, [.int v_th, .ref a_sa, .int v_sz, .int x_86.2.1, .int x_86.2.2.1, .ref a_ru, .ref a_me, .ref a_le, .int v_n, .ref a_cl, .ref a_te, .ref a_ki, .ref a_ty, .ref a_bl, .ref a_ex, .ref a_lo, .int v_nl, .ref a_ho, .ref a_fi, .int v_nf, .ref a_cz, .int v_nc])), (a_sa, .inl (k_sa, 120, .inl f_sa)), (a_ru, .inl (k_ru, 410, .inl x_86.2.2.2))]) hP hD [0, 1, 2] [] rfl rfl (by decide) (by decide) hk1 hFc hP1 hD1
                      replace hK := (hK.sub (tys' := []) [] rfl).app hK1
                      generalize H1 = H at hP hS ⊢
                      replace hP := hP.sub (ws' := [(a_m, .inr (5, [.int v_th, .ref a_sa, .int v_sz, .int x_86.2.1, .int x_86.2.2.1, .ref a_ru, .ref a_me, .ref a_le, .int v_n, .ref a_cl, .ref a_te, .ref a_ki, .ref a_ty, .ref a_bl, .ref a_ex, .ref a_lo, .int v_nl, .ref a_ho, .ref a_fi, .int v_nf, .ref a_cz, .int v_nc])), (a_sa, .inl (k_sa, 120, .inl f_sa)), (a_ru, .inl (k_ru, 410, .inl x_86.2.2.2))]) [0, 1, 2] rfl
                      replace hD := hD.sub (ws' := [(a_m, .inr (5, [.int v_th, .ref a_sa, .int v_sz, .int x_86.2.1, .int x_86.2.2.1, .ref a_ru, .ref a_me, .ref a_le, .int v_n, .ref a_cl, .ref a_te, .ref a_ki, .ref a_ty, .ref a_bl, .ref a_ex, .ref a_lo, .int v_nl, .ref a_ho, .ref a_fi, .int v_nf, .ref a_cz, .int v_nc])), (a_sa, .inl (k_sa, 120, .inl f_sa)), (a_ru, .inl (k_ru, 410, .inl x_86.2.2.2))]) [0, 1, 2] (by decide) rfl
                      replace hK := hK.sub (tys' := [(k_sa, .byte), (k_ru, .int)]) [0, 1] rfl
                      refine lv_if_ne (tgt := 175) hx hb d_M_reads_170 (by decide) (fun c_87 => ?_) (fun c_87 => ?_)
                      · rw [if_neg c_87] at hg_rd1
                        refine lv_iload_n hx hb d_M_reads_175 rfl (lv_at hl 1 rfl) ?_
                        refine lv_istore_n (lv' := [(1, .int (g_Mg_step (g_Mg_word v_sz a f_sa))), (3, .int 1), (2, .int (g_Mg_step (g_Mg_word v_sz a f_sa))), (0, .ref a_m)]) hx hb d_M_reads_176 rfl hl (by decide) rfl (fun ls hl => ?_)
                        refine lv_goto (tgt := 56) hx hb d_M_reads_177 (by decide) ?_
                        exact ih_rd1 _ _ _ _ _ _ _ ⟨hP, hD, hS, lv_sub hl [0, 3] rfl, ((hg_x_86 ▸ one_at hsz (hg_x_83 ▸ pass_at hsz ha))), (step_le _), (li_mt hla c_10 (step_le _) hm_rd1), hg_rd1⟩
                      · rw [if_pos c_87] at hg_rd1
                        subst hg_rd1
                        dsimp only at hE
                        rw [if_neg (by decide)] at hE
                        rw [if_neg (by decide)] at hE
                        rw [if_neg (by decide)] at hE
                        refine lv_iconst (v := 0) hx hb d_M_reads_173 (by decide) ?_
                        have hP9 := hP.sub (ws' := [(a_m, .inr (5, [.int v_th, .ref a_sa, .int v_sz, .int x_86.2.1, .int x_86.2.2.1, .ref a_ru, .ref a_me, .ref a_le, .int v_n, .ref a_cl, .ref a_te, .ref a_ki, .ref a_ty, .ref a_bl, .ref a_ex, .ref a_lo, .int v_nl, .ref a_ho, .ref a_fi, .int v_nf, .ref a_cz, .int v_nc])), (a_sa, .inl (k_sa, 120, .inl f_sa)), (a_ru, .inl (k_ru, 410, .inl x_86.2.2.2))]) [0, 1, 2] rfl
                        have hD9 := hD.sub (ws' := [(a_m, .inr (5, [.int v_th, .ref a_sa, .int v_sz, .int x_86.2.1, .int x_86.2.2.1, .ref a_ru, .ref a_me, .ref a_le, .int v_n, .ref a_cl, .ref a_te, .ref a_ki, .ref a_ty, .ref a_bl, .ref a_ex, .ref a_lo, .int v_nl, .ref a_ho, .ref a_fi, .int v_nf, .ref a_cz, .int v_nc])), (a_sa, .inl (k_sa, 120, .inl f_sa)), (a_ru, .inl (k_ru, 410, .inl x_86.2.2.2))]) [0, 1, 2] (by decide) rfl
                        have hK9 := hK.sub (tys' := [(k_sa, .byte), (k_ru, .int)]) [0, 1] rfl
                        exact W.zret (v := 0) hx hb hr rfl (fun t ht hW => ⟨⟨0, (), rfl, by rw [← hz, hE], by rw [ht, ← hz, hE]; exact hP9, va_K.moved hW.alike hK9, by rw [← hz, hE]; exact hD9⟩, hS.F ht⟩) hS.2.2 d_M_reads_174
                    · exact absurd c_81 (by decide)
          · rw [if_neg c_5] at hg_rd1
            refine lv_aload_n hx hb d_M_reads_76 rfl (lv_at hl 1 rfl) ?_
            have hPc := hP.sub (ws' := [(a_m, .inr (5, [.int v_th, .ref a_sa, .int v_sz, .int a, .int wr, .ref a_ru, .ref a_me, .ref a_le, .int v_n, .ref a_cl, .ref a_te, .ref a_ki, .ref a_ty, .ref a_bl, .ref a_ex, .ref a_lo, .int v_nl, .ref a_ho, .ref a_fi, .int v_nf, .ref a_cz, .int v_nc])), (a_sa, .inl (k_sa, 120, .inl f_sa))]) [0, 1] rfl
            have hKc := hK.sub (tys' := [(k_sa, .byte)]) [0] rfl
            have hDc := hD.sub (ws' := [(a_m, .inr (5, [.int v_th, .ref a_sa, .int v_sz, .int a, .int wr, .ref a_ru, .ref a_me, .ref a_le, .int v_n, .ref a_cl, .ref a_te, .ref a_ki, .ref a_ty, .ref a_bl, .ref a_ex, .ref a_lo, .int v_nl, .ref a_ho, .ref a_fi, .int v_nf, .ref a_cz, .int v_nc])), (a_sa, .inl (k_sa, 120, .inl f_sa))]) [0, 1] (by decide) rfl
            have hFc := va_free (wc := [(a_m, .inr (5, [.int v_th, .ref a_sa, .int v_sz, .int a, .int wr, .ref a_ru, .ref a_me, .ref a_le, .int v_n, .ref a_cl, .ref a_te, .ref a_ki, .ref a_ty, .ref a_bl, .ref a_ex, .ref a_lo, .int v_nl, .ref a_ho, .ref a_fi, .int v_nf, .ref a_cz, .int v_nc])), (a_sa, .inl (k_sa, 120, .inl f_sa))]) hD hS hA [0, 1] rfl
            refine va_calli (va_runV (As := []) (rest := []) ⟨hx, hb, hml, hown, hts⟩ (c_Mg_space l dC dI adK adV (a_m := a_m) (v_th := v_th) (a_sa := a_sa) (v_sz := v_sz) (v_at := a) (v_wr := wr) (a_ru := a_ru) (a_me := a_me) (a_le := a_le) (v_n := v_n) (a_cl := a_cl) (a_te := a_te) (a_ki := a_ki) (a_ty := a_ty) (a_bl := a_bl) (a_ex := a_ex) (a_lo := a_lo) (v_nl := v_nl) (a_ho := a_ho) (a_fi := a_fi) (v_nf := v_nf) (a_cz := a_cz) (v_nc := v_nc) (k_sa := k_sa) (f_sa := f_sa) (sz := H.size) hsz ha) (cwV 0 hts (gV tw_680 tw_682 tw_26 tw_46 tw_683) rfl rfl rfl (by decide +kernel) ⟨(Nat.le_of_ble_eq_true rfl), (Nat.le_of_ble_eq_true rfl)⟩) ⟨fun a U g mk q => by obtain ⟨q0, q1, qZ, qP, qK, qD⟩ := q; exact ⟨q0, q1, zz_call qZ, qP, va_K.moved (u := U) (U := U.calling g mk a) (Vm.Alike.refl U.vm) qK, qD⟩, va_recv hKc hPc (ci := 5) (q0 := 0) rfl rfl, fun U hU hW => ⟨rfl, by rw [hU], zz_rw hS hFc hU hW hZ, by rw [hU]; exact hPc, va_K.moved hW.alike hKc, hDc.weaken (fun _ _ _ _ => trivial)⟩⟩ rfl rfl hl.1 rfl (lv_room (Nat.le_of_ble_eq_true rfl)) d_M_reads_77 ⟨(Nat.le_of_ble_eq_true rfl), (Nat.le_of_ble_eq_true rfl)⟩) hS (fun q _ h => hFc q h) hFc (fun r_88 u t H1 locs ht hvm hw_89 hB hz1 hk1 hS => ?_)
            generalize hg_x_90 : g_Mg_space v_sz a wr f_sa = x_90 at hw_89 hB hg_rd1
            rw [bv_eq] at hg_rd1
            obtain ⟨hP1, hK1, hD1⟩ := hB
            rw [ht] at hP1
            have hK1 := va_K.moved hvm.symm hK1
            obtain rfl : r_88 = x_90.1 := hw_89
            obtain ⟨hP, hD⟩ := va_join (wr := [(a_ru, .inl (k_ru, 410, .inl R))]) (w1 := [(a_m, .inr (5, [.int v_th, .ref a_sa, .int v_sz, .int x_90.2.1, .int x_90.2.2, .ref a_ru, .ref a_me, .ref a_le, .int v_n, .ref a_cl, .ref a_te, .ref a_ki, .ref a_ty, .ref a_bl, .ref a_ex, .ref a_lo, .int v_nl, .ref a_ho, .ref a_fi, .int v_nf, .ref a_cz, .int v_nc])), (a_sa, .inl (k_sa, 120, .inl f_sa))]) hP hD [0, 1] [2] rfl rfl (by decide) (by decide) hk1 hFc hP1 hD1
            replace hK := (hK.sub (tys' := [(k_ru, .int)]) [1] rfl).app hK1
            generalize H1 = H at hP hS ⊢
            replace hP := hP.sub (ws' := [(a_m, .inr (5, [.int v_th, .ref a_sa, .int v_sz, .int x_90.2.1, .int x_90.2.2, .ref a_ru, .ref a_me, .ref a_le, .int v_n, .ref a_cl, .ref a_te, .ref a_ki, .ref a_ty, .ref a_bl, .ref a_ex, .ref a_lo, .int v_nl, .ref a_ho, .ref a_fi, .int v_nf, .ref a_cz, .int v_nc])), (a_sa, .inl (k_sa, 120, .inl f_sa)), (a_ru, .inl (k_ru, 410, .inl R))]) [1, 2, 0] rfl
            replace hD := hD.sub (ws' := [(a_m, .inr (5, [.int v_th, .ref a_sa, .int v_sz, .int x_90.2.1, .int x_90.2.2, .ref a_ru, .ref a_me, .ref a_le, .int v_n, .ref a_cl, .ref a_te, .ref a_ki, .ref a_ty, .ref a_bl, .ref a_ex, .ref a_lo, .int v_nl, .ref a_ho, .ref a_fi, .int v_nf, .ref a_cz, .int v_nc])), (a_sa, .inl (k_sa, 120, .inl f_sa)), (a_ru, .inl (k_ru, 410, .inl R))]) [1, 2, 0] (by decide) rfl
            replace hK := hK.sub (tys' := [(k_sa, .byte), (k_ru, .int)]) [1, 0] rfl
            refine lv_if_ne (tgt := 85) hx hb d_M_reads_80 (by decide) (fun c_91 => ?_) (fun c_91 => ?_)
            · rw [if_neg c_91] at hg_rd1
              refine lv_aload_n hx hb d_M_reads_85 rfl (lv_at hl 1 rfl) ?_
              have hPc := hP.sub (ws' := [(a_m, .inr (5, [.int v_th, .ref a_sa, .int v_sz, .int x_90.2.1, .int x_90.2.2, .ref a_ru, .ref a_me, .ref a_le, .int v_n, .ref a_cl, .ref a_te, .ref a_ki, .ref a_ty, .ref a_bl, .ref a_ex, .ref a_lo, .int v_nl, .ref a_ho, .ref a_fi, .int v_nf, .ref a_cz, .int v_nc])), (a_sa, .inl (k_sa, 120, .inl f_sa))]) [0, 1] rfl
              have hKc := hK.sub (tys' := [(k_sa, .byte)]) [0] rfl
              refine vp_callSl (va_Run.run (va_runV (As := []) (rest := []) ⟨hx, hb, hml, hown, hts⟩ (c_Mg_word l dC dI adK adV (a_m := a_m) (v_th := v_th) (a_sa := a_sa) (v_sz := v_sz) (v_at := x_90.2.1) (v_wr := x_90.2.2) (a_ru := a_ru) (a_me := a_me) (a_le := a_le) (v_n := v_n) (a_cl := a_cl) (a_te := a_te) (a_ki := a_ki) (a_ty := a_ty) (a_bl := a_bl) (a_ex := a_ex) (a_lo := a_lo) (v_nl := v_nl) (a_ho := a_ho) (a_fi := a_fi) (v_nf := v_nf) (a_cz := a_cz) (v_nc := v_nc) (k_sa := k_sa) (f_sa := f_sa) hsz (hg_x_90 ▸ space_at hsz ha)) (cwV 0 hts (gV tw_692 tw_694 tw_29 tw_46 tw_695) rfl rfl rfl (by decide +kernel) ⟨(Nat.le_of_ble_eq_true rfl), (Nat.le_of_ble_eq_true rfl)⟩) ⟨fun a U g mk q => by obtain ⟨q0, qZ, qP, qK⟩ := q; exact ⟨q0, zz_call qZ, qP, va_K.moved (u := U) (U := U.calling g mk a) (Vm.Alike.refl U.vm) qK⟩, va_recv hKc hPc (ci := 5) (q0 := 0) rfl rfl, fun U hU hW => ⟨rfl, zz_ro hS hU hW hZ, by rw [hU]; exact hPc, va_K.moved hW.alike hKc⟩⟩ rfl rfl hl.1 rfl (lv_room (Nat.le_of_ble_eq_true rfl)) d_M_reads_86 ⟨(Nat.le_of_ble_eq_true rfl), (Nat.le_of_ble_eq_true rfl)⟩)) (fun r_92 hw_93 => ?_)
              clear hPc hKc
              subst hw_93
              have hPc := hP.sub (ws' := []) [] rfl
              have hKc := hK.sub (tys' := []) [] rfl
              refine vp_callSi (va_Run.run (va_runS (As := [.long (g_Mg_word v_sz x_90.2.1 f_sa)]) (rest := []) ⟨hx, hb, hml, hown, hts⟩ (c_Mg_step l dC dI adK adV (p0 := g_Mg_word v_sz x_90.2.1 f_sa)) (va_cwS 1 hts (gS tw_699 tw_700 tw_46 tw_701) rfl rfl rfl (by decide +kernel) ⟨(Nat.le_of_ble_eq_true rfl), (Nat.le_of_ble_eq_true rfl)⟩) ⟨fun a U g mk q => by obtain ⟨q0, qZ, qP, qK⟩ := q; exact ⟨q0, zz_call qZ, qP, va_K.moved (u := U) (U := U.calling g mk a) (Vm.Alike.refl U.vm) qK⟩, fun U hU hW => ⟨rfl, zz_ro hS hU hW hZ, by rw [hU]; exact hPc, va_K.moved hW.alike hKc⟩⟩ rfl rfl hl.1 rfl (lv_room (Nat.le_of_ble_eq_true rfl)) d_M_reads_89 ⟨(Nat.le_of_ble_eq_true rfl), (Nat.le_of_ble_eq_true rfl)⟩)) (fun r_94 hw_95 => ?_)
              clear hPc hKc
              subst hw_95
              refine lv_istore_n (lv' := [(2, .int (g_Mg_step (g_Mg_word v_sz x_90.2.1 f_sa))), (1, .int la), (0, .ref a_m)]) hx hb d_M_reads_92 rfl hl (by decide) rfl (fun ls hl => ?_)
              refine lv_iload_n hx hb d_M_reads_93 rfl (lv_at hl 0 rfl) ?_
              refine lv_iload_n hx hb d_M_reads_94 rfl (lv_at hl 1 rfl) ?_
              refine lv_icmp_le (tgt := 142) hx hb d_M_reads_95 (by decide) (fun c_96 => ?_) (fun c_96 => ?_)
              · rw [if_pos c_96] at hg_rd1
                refine lv_iconst (v := 0) hx hb d_M_reads_142 (by decide) ?_
                refine lv_istore_n (lv' := [(3, .int 0), (2, .int (g_Mg_step (g_Mg_word v_sz x_90.2.1 f_sa))), (1, .int la), (0, .ref a_m)]) hx hb d_M_reads_143 rfl hl (by decide) rfl (fun ls hl => ?_)
                refine lv_iload_n hx hb d_M_reads_144 rfl (lv_at hl 1 rfl) ?_
                refine lv_if_eq (tgt := 152) hx hb d_M_reads_145 (by decide) (fun c_97 => ?_) (fun c_97 => ?_)
                · subst hg_rd1
                  dsimp only at hE
                  rw [if_neg (by decide)] at hE
                  rw [if_neg (by decide)] at hE
                  rw [if_pos rfl] at hE
                  refine lv_aload_n hx hb d_M_reads_152 rfl (lv_at hl 3 rfl) ?_
                  refine lv_aload_n hx hb d_M_reads_153 rfl (lv_at hl 3 rfl) ?_
                  refine va_get (D := (dC, dI)) (ci := 5) (v := .int x_90.2.1) (C := "LoanRulesModel") (T := Fz_M) (N := 22) hx hb hts it_M hown hK hP 0 rfl rfl 3 (by decide) (hts _ tw_604) (fun _ h9 => h9) rfl d_M_reads_154 ?_
                  have hPc := hP.sub (ws' := [(a_m, .inr (5, [.int v_th, .ref a_sa, .int v_sz, .int x_90.2.1, .int x_90.2.2, .ref a_ru, .ref a_me, .ref a_le, .int v_n, .ref a_cl, .ref a_te, .ref a_ki, .ref a_ty, .ref a_bl, .ref a_ex, .ref a_lo, .int v_nl, .ref a_ho, .ref a_fi, .int v_nf, .ref a_cz, .int v_nc]))]) [0] rfl
                  have hKc := hK.sub (tys' := []) [] rfl
                  have hDc := hD.sub (ws' := [(a_m, .inr (5, [.int v_th, .ref a_sa, .int v_sz, .int x_90.2.1, .int x_90.2.2, .ref a_ru, .ref a_me, .ref a_le, .int v_n, .ref a_cl, .ref a_te, .ref a_ki, .ref a_ty, .ref a_bl, .ref a_ex, .ref a_lo, .int v_nl, .ref a_ho, .ref a_fi, .int v_nf, .ref a_cz, .int v_nc]))]) [0] (by decide) rfl
                  have hFc := va_free (wc := [(a_m, .inr (5, [.int v_th, .ref a_sa, .int v_sz, .int x_90.2.1, .int x_90.2.2, .ref a_ru, .ref a_me, .ref a_le, .int v_n, .ref a_cl, .ref a_te, .ref a_ki, .ref a_ty, .ref a_bl, .ref a_ex, .ref a_lo, .int v_nl, .ref a_ho, .ref a_fi, .int v_nf, .ref a_cz, .int v_nc]))]) hD hS hA [0] rfl
                  refine va_calli (va_runV (As := [.int x_90.2.1]) (rest := []) ⟨hx, hb, hml, hown, hts⟩ (c_Mg_bad l dC dI adK adV (a_m := a_m) (p0 := x_90.2.1) (v_th := v_th) (a_sa := a_sa) (v_sz := v_sz) (v_at := x_90.2.1) (v_wr := x_90.2.2) (a_ru := a_ru) (a_me := a_me) (a_le := a_le) (v_n := v_n) (a_cl := a_cl) (a_te := a_te) (a_ki := a_ki) (a_ty := a_ty) (a_bl := a_bl) (a_ex := a_ex) (a_lo := a_lo) (v_nl := v_nl) (a_ho := a_ho) (a_fi := a_fi) (v_nf := v_nf) (a_cz := a_cz) (v_nc := v_nc) (sz := H.size)) (cwV 1 hts (gV tw_688 tw_690 tw_28 tw_46 tw_691) rfl rfl rfl (by decide +kernel) ⟨(Nat.le_of_ble_eq_true rfl), (Nat.le_of_ble_eq_true rfl)⟩) ⟨fun a U g mk q => by obtain ⟨q0, q1, qZ, qP, qK, qD⟩ := q; exact ⟨q0, q1, zz_call qZ, qP, va_K.moved (u := U) (U := U.calling g mk a) (Vm.Alike.refl U.vm) qK, qD⟩, va_recv hKc hPc (ci := 5) (q0 := 0) rfl rfl, fun U hU hW => ⟨rfl, by rw [hU], zz_rw hS hFc hU hW hZ, by rw [hU]; exact hPc, va_K.moved hW.alike hKc, hDc.weaken (fun _ _ _ _ => trivial)⟩⟩ rfl rfl hl.1 rfl (lv_room (Nat.le_of_ble_eq_true rfl)) d_M_reads_157 ⟨(Nat.le_of_ble_eq_true rfl), (Nat.le_of_ble_eq_true rfl)⟩) hS (fun q _ h => hFc q h) hFc (fun r_98 u t H1 locs ht hvm hw_99 hB hz1 hk1 hS => ?_)
                  obtain ⟨hP1, hK1, hD1⟩ := hB
                  rw [ht] at hP1
                  have hK1 := va_K.moved hvm.symm hK1
                  obtain rfl : r_98 = 0 := hw_99
                  obtain ⟨hP, hD⟩ := va_join (wr := [(a_sa, .inl (k_sa, 120, .inl f_sa)), (a_ru, .inl (k_ru, 410, .inl R))]) (w1 := [(a_m, .inr (5, [.int v_th, .ref a_sa, .int v_sz, .int x_90.2.1, .int x_90.2.1, .ref a_ru, .ref a_me, .ref a_le, .int v_n, .ref a_cl, .ref a_te, .ref a_ki, .ref a_ty, .ref a_bl, .ref a_ex, .ref a_lo, .int v_nl, .ref a_ho, .ref a_fi, .int v_nf, .ref a_cz, .int v_nc]))]) hP hD [0] [1, 2] rfl rfl (by decide) (by decide) hk1 hFc hP1 hD1
                  replace hK := (hK.sub (tys' := [(k_sa, .byte), (k_ru, .int)]) [0, 1] rfl).app hK1
                  generalize H1 = H at hP hS ⊢
                  replace hP := hP.sub (ws' := [(a_m, .inr (5, [.int v_th, .ref a_sa, .int v_sz, .int x_90.2.1, .int x_90.2.1, .ref a_ru, .ref a_me, .ref a_le, .int v_n, .ref a_cl, .ref a_te, .ref a_ki, .ref a_ty, .ref a_bl, .ref a_ex, .ref a_lo, .int v_nl, .ref a_ho, .ref a_fi, .int v_nf, .ref a_cz, .int v_nc])), (a_sa, .inl (k_sa, 120, .inl f_sa)), (a_ru, .inl (k_ru, 410, .inl R))]) [2, 0, 1] rfl
                  replace hD := hD.sub (ws' := [(a_m, .inr (5, [.int v_th, .ref a_sa, .int v_sz, .int x_90.2.1, .int x_90.2.1, .ref a_ru, .ref a_me, .ref a_le, .int v_n, .ref a_cl, .ref a_te, .ref a_ki, .ref a_ty, .ref a_bl, .ref a_ex, .ref a_lo, .int v_nl, .ref a_ho, .ref a_fi, .int v_nf, .ref a_cz, .int v_nc])), (a_sa, .inl (k_sa, 120, .inl f_sa)), (a_ru, .inl (k_ru, 410, .inl R))]) [2, 0, 1] (by decide) rfl
                  replace hK := hK.sub (tys' := [(k_sa, .byte), (k_ru, .int)]) [0, 1] rfl
                  have hP9 := hP.sub (ws' := [(a_m, .inr (5, [.int v_th, .ref a_sa, .int v_sz, .int x_90.2.1, .int x_90.2.1, .ref a_ru, .ref a_me, .ref a_le, .int v_n, .ref a_cl, .ref a_te, .ref a_ki, .ref a_ty, .ref a_bl, .ref a_ex, .ref a_lo, .int v_nl, .ref a_ho, .ref a_fi, .int v_nf, .ref a_cz, .int v_nc])), (a_sa, .inl (k_sa, 120, .inl f_sa)), (a_ru, .inl (k_ru, 410, .inl R))]) [0, 1, 2] rfl
                  have hD9 := hD.sub (ws' := [(a_m, .inr (5, [.int v_th, .ref a_sa, .int v_sz, .int x_90.2.1, .int x_90.2.1, .ref a_ru, .ref a_me, .ref a_le, .int v_n, .ref a_cl, .ref a_te, .ref a_ki, .ref a_ty, .ref a_bl, .ref a_ex, .ref a_lo, .int v_nl, .ref a_ho, .ref a_fi, .int v_nf, .ref a_cz, .int v_nc])), (a_sa, .inl (k_sa, 120, .inl f_sa)), (a_ru, .inl (k_ru, 410, .inl R))]) [0, 1, 2] (by decide) rfl
                  have hK9 := hK.sub (tys' := [(k_sa, .byte), (k_ru, .int)]) [0, 1] rfl
                  exact W.zret (v := 0) hx hb hr rfl (fun t ht hW => ⟨⟨0, (), rfl, by rw [← hz, hE], by rw [ht, ← hz, hE]; exact hP9, va_K.moved hW.alike hK9, by rw [← hz, hE]; exact hD9⟩, hS.F ht⟩) hS.2.2 d_M_reads_160
                · refine lv_iload_n hx hb d_M_reads_148 rfl (lv_at hl 0 rfl) ?_
                  refine lv_if_ne (tgt := 161) hx hb d_M_reads_149 (by decide) (fun c_100 => ?_) (fun c_100 => ?_)
                  · exact absurd (by decide) c_100
                  · subst hg_rd1
                    dsimp only at hE
                    rw [if_neg (by decide)] at hE
                    rw [if_neg (by decide)] at hE
                    rw [if_pos rfl] at hE
                    refine lv_aload_n hx hb d_M_reads_152 rfl (lv_at hl 3 rfl) ?_
                    refine lv_aload_n hx hb d_M_reads_153 rfl (lv_at hl 3 rfl) ?_
                    refine va_get (D := (dC, dI)) (ci := 5) (v := .int x_90.2.1) (C := "LoanRulesModel") (T := Fz_M) (N := 22) hx hb hts it_M hown hK hP 0 rfl rfl 3 (by decide) (hts _ tw_604) (fun _ h9 => h9) rfl d_M_reads_154 ?_
                    have hPc := hP.sub (ws' := [(a_m, .inr (5, [.int v_th, .ref a_sa, .int v_sz, .int x_90.2.1, .int x_90.2.2, .ref a_ru, .ref a_me, .ref a_le, .int v_n, .ref a_cl, .ref a_te, .ref a_ki, .ref a_ty, .ref a_bl, .ref a_ex, .ref a_lo, .int v_nl, .ref a_ho, .ref a_fi, .int v_nf, .ref a_cz, .int v_nc]))]) [0] rfl
                    have hKc := hK.sub (tys' := []) [] rfl
                    have hDc := hD.sub (ws' := [(a_m, .inr (5, [.int v_th, .ref a_sa, .int v_sz, .int x_90.2.1, .int x_90.2.2, .ref a_ru, .ref a_me, .ref a_le, .int v_n, .ref a_cl, .ref a_te, .ref a_ki, .ref a_ty, .ref a_bl, .ref a_ex, .ref a_lo, .int v_nl, .ref a_ho, .ref a_fi, .int v_nf, .ref a_cz, .int v_nc]))]) [0] (by decide) rfl
                    have hFc := va_free (wc := [(a_m, .inr (5, [.int v_th, .ref a_sa, .int v_sz, .int x_90.2.1, .int x_90.2.2, .ref a_ru, .ref a_me, .ref a_le, .int v_n, .ref a_cl, .ref a_te, .ref a_ki, .ref a_ty, .ref a_bl, .ref a_ex, .ref a_lo, .int v_nl, .ref a_ho, .ref a_fi, .int v_nf, .ref a_cz, .int v_nc]))]) hD hS hA [0] rfl
                    refine va_calli (va_runV (As := [.int x_90.2.1]) (rest := []) ⟨hx, hb, hml, hown, hts⟩ (c_Mg_bad l dC dI adK adV (a_m := a_m) (p0 := x_90.2.1) (v_th := v_th) (a_sa := a_sa) (v_sz := v_sz) (v_at := x_90.2.1) (v_wr := x_90.2.2) (a_ru := a_ru) (a_me := a_me) (a_le := a_le) (v_n := v_n) (a_cl := a_cl) (a_te := a_te) (a_ki := a_ki) (a_ty := a_ty) (a_bl := a_bl) (a_ex := a_ex) (a_lo := a_lo) (v_nl := v_nl) (a_ho := a_ho) (a_fi := a_fi) (v_nf := v_nf) (a_cz := a_cz) (v_nc := v_nc) (sz := H.size)) (cwV 1 hts (gV tw_688 tw_690 tw_28 tw_46 tw_691) rfl rfl rfl (by decide +kernel) ⟨(Nat.le_of_ble_eq_true rfl), (Nat.le_of_ble_eq_true rfl)⟩) ⟨fun a U g mk q => by obtain ⟨q0, q1, qZ, qP, qK, qD⟩ := q; exact ⟨q0, q1, zz_call qZ, qP, va_K.moved (u := U) (U := U.calling g mk a) (Vm.Alike.refl U.vm) qK, qD⟩, va_recv hKc hPc (ci := 5) (q0 := 0) rfl rfl, fun U hU hW => ⟨rfl, by rw [hU], zz_rw hS hFc hU hW hZ, by rw [hU]; exact hPc, va_K.moved hW.alike hKc, hDc.weaken (fun _ _ _ _ => trivial)⟩⟩ rfl rfl hl.1 rfl (lv_room (Nat.le_of_ble_eq_true rfl)) d_M_reads_157 ⟨(Nat.le_of_ble_eq_true rfl), (Nat.le_of_ble_eq_true rfl)⟩) hS (fun q _ h => hFc q h) hFc (fun r_101 u t H1 locs ht hvm hw_102 hB hz1 hk1 hS => ?_)
                    obtain ⟨hP1, hK1, hD1⟩ := hB
                    rw [ht] at hP1
                    have hK1 := va_K.moved hvm.symm hK1
                    obtain rfl : r_101 = 0 := hw_102
                    obtain ⟨hP, hD⟩ := va_join (wr := [(a_sa, .inl (k_sa, 120, .inl f_sa)), (a_ru, .inl (k_ru, 410, .inl R))]) (w1 := [(a_m, .inr (5, [.int v_th, .ref a_sa, .int v_sz, .int x_90.2.1, .int x_90.2.1, .ref a_ru, .ref a_me, .ref a_le, .int v_n, .ref a_cl, .ref a_te, .ref a_ki, .ref a_ty, .ref a_bl, .ref a_ex, .ref a_lo, .int v_nl, .ref a_ho, .ref a_fi, .int v_nf, .ref a_cz, .int v_nc]))]) hP hD [0] [1, 2] rfl rfl (by decide) (by decide) hk1 hFc hP1 hD1
                    replace hK := (hK.sub (tys' := [(k_sa, .byte), (k_ru, .int)]) [0, 1] rfl).app hK1
                    generalize H1 = H at hP hS ⊢
                    replace hP := hP.sub (ws' := [(a_m, .inr (5, [.int v_th, .ref a_sa, .int v_sz, .int x_90.2.1, .int x_90.2.1, .ref a_ru, .ref a_me, .ref a_le, .int v_n, .ref a_cl, .ref a_te, .ref a_ki, .ref a_ty, .ref a_bl, .ref a_ex, .ref a_lo, .int v_nl, .ref a_ho, .ref a_fi, .int v_nf, .ref a_cz, .int v_nc])), (a_sa, .inl (k_sa, 120, .inl f_sa)), (a_ru, .inl (k_ru, 410, .inl R))]) [2, 0, 1] rfl
                    replace hD := hD.sub (ws' := [(a_m, .inr (5, [.int v_th, .ref a_sa, .int v_sz, .int x_90.2.1, .int x_90.2.1, .ref a_ru, .ref a_me, .ref a_le, .int v_n, .ref a_cl, .ref a_te, .ref a_ki, .ref a_ty, .ref a_bl, .ref a_ex, .ref a_lo, .int v_nl, .ref a_ho, .ref a_fi, .int v_nf, .ref a_cz, .int v_nc])), (a_sa, .inl (k_sa, 120, .inl f_sa)), (a_ru, .inl (k_ru, 410, .inl R))]) [2, 0, 1] (by decide) rfl
                    replace hK := hK.sub (tys' := [(k_sa, .byte), (k_ru, .int)]) [0, 1] rfl
                    have hP9 := hP.sub (ws' := [(a_m, .inr (5, [.int v_th, .ref a_sa, .int v_sz, .int x_90.2.1, .int x_90.2.1, .ref a_ru, .ref a_me, .ref a_le, .int v_n, .ref a_cl, .ref a_te, .ref a_ki, .ref a_ty, .ref a_bl, .ref a_ex, .ref a_lo, .int v_nl, .ref a_ho, .ref a_fi, .int v_nf, .ref a_cz, .int v_nc])), (a_sa, .inl (k_sa, 120, .inl f_sa)), (a_ru, .inl (k_ru, 410, .inl R))]) [0, 1, 2] rfl
                    have hD9 := hD.sub (ws' := [(a_m, .inr (5, [.int v_th, .ref a_sa, .int v_sz, .int x_90.2.1, .int x_90.2.1, .ref a_ru, .ref a_me, .ref a_le, .int v_n, .ref a_cl, .ref a_te, .ref a_ki, .ref a_ty, .ref a_bl, .ref a_ex, .ref a_lo, .int v_nl, .ref a_ho, .ref a_fi, .int v_nf, .ref a_cz, .int v_nc])), (a_sa, .inl (k_sa, 120, .inl f_sa)), (a_ru, .inl (k_ru, 410, .inl R))]) [0, 1, 2] (by decide) rfl
                    have hK9 := hK.sub (tys' := [(k_sa, .byte), (k_ru, .int)]) [0, 1] rfl
                    exact W.zret (v := 0) hx hb hr rfl (fun t ht hW => ⟨⟨0, (), rfl, by rw [← hz, hE], by rw [ht, ← hz, hE]; exact hP9, va_K.moved hW.alike hK9, by rw [← hz, hE]; exact hD9⟩, hS.F ht⟩) hS.2.2 d_M_reads_160
              · rw [if_neg c_96] at hg_rd1
                refine lv_iload_n hx hb d_M_reads_98 rfl (lv_at hl 1 rfl) ?_
                refine lv_iconst (v := 4) hx hb d_M_reads_99 (by decide) ?_
                refine lv_icmp_ge (tgt := 112) hx hb d_M_reads_100 (by decide) (fun c_103 => ?_) (fun c_103 => ?_)
                · rw [if_pos c_103] at hg_rd1
                  refine lv_iload_n hx hb d_M_reads_112 rfl (lv_at hl 1 rfl) ?_
                  refine lv_iconst (v := 5) hx hb d_M_reads_113 (by decide) ?_
                  refine lv_icmp_eq (tgt := 123) hx hb d_M_reads_114 (by decide) (fun c_104 => ?_) (fun c_104 => ?_)
                  · rw [if_pos c_104] at hg_rd1
                    refine lv_iload_n hx hb d_M_reads_123 rfl (lv_at hl 0 rfl) ?_
                    refine lv_bipush (v := 10) hx hb d_M_reads_124 (by decide) ?_
                    refine lv_icmp_ne (tgt := 142) hx hb d_M_reads_126 (by decide) (fun c_105 => ?_) (fun c_105 => ?_)
                    · rw [if_neg c_105] at hg_rd1
                      refine lv_iconst (v := 0) hx hb d_M_reads_142 (by decide) ?_
                      refine lv_istore_n (lv' := [(3, .int 0), (2, .int (g_Mg_step (g_Mg_word v_sz x_90.2.1 f_sa))), (1, .int la), (0, .ref a_m)]) hx hb d_M_reads_143 rfl hl (by decide) rfl (fun ls hl => ?_)
                      refine lv_iload_n hx hb d_M_reads_144 rfl (lv_at hl 1 rfl) ?_
                      refine lv_if_eq (tgt := 152) hx hb d_M_reads_145 (by decide) (fun c_106 => ?_) (fun c_106 => ?_)
                      · subst hg_rd1
                        dsimp only at hE
                        rw [if_neg (by decide)] at hE
                        rw [if_neg (by decide)] at hE
                        rw [if_pos rfl] at hE
                        refine lv_aload_n hx hb d_M_reads_152 rfl (lv_at hl 3 rfl) ?_
                        refine lv_aload_n hx hb d_M_reads_153 rfl (lv_at hl 3 rfl) ?_
                        refine va_get (D := (dC, dI)) (ci := 5) (v := .int x_90.2.1) (C := "LoanRulesModel") (T := Fz_M) (N := 22) hx hb hts it_M hown hK hP 0 rfl rfl 3 (by decide) (hts _ tw_604) (fun _ h9 => h9) rfl d_M_reads_154 ?_
                        have hPc := hP.sub (ws' := [(a_m, .inr (5, [.int v_th, .ref a_sa, .int v_sz, .int x_90.2.1, .int x_90.2.2, .ref a_ru, .ref a_me, .ref a_le, .int v_n, .ref a_cl, .ref a_te, .ref a_ki, .ref a_ty, .ref a_bl, .ref a_ex, .ref a_lo, .int v_nl, .ref a_ho, .ref a_fi, .int v_nf, .ref a_cz, .int v_nc]))]) [0] rfl
                        have hKc := hK.sub (tys' := []) [] rfl
                        have hDc := hD.sub (ws' := [(a_m, .inr (5, [.int v_th, .ref a_sa, .int v_sz, .int x_90.2.1, .int x_90.2.2, .ref a_ru, .ref a_me, .ref a_le, .int v_n, .ref a_cl, .ref a_te, .ref a_ki, .ref a_ty, .ref a_bl, .ref a_ex, .ref a_lo, .int v_nl, .ref a_ho, .ref a_fi, .int v_nf, .ref a_cz, .int v_nc]))]) [0] (by decide) rfl
                        have hFc := va_free (wc := [(a_m, .inr (5, [.int v_th, .ref a_sa, .int v_sz, .int x_90.2.1, .int x_90.2.2, .ref a_ru, .ref a_me, .ref a_le, .int v_n, .ref a_cl, .ref a_te, .ref a_ki, .ref a_ty, .ref a_bl, .ref a_ex, .ref a_lo, .int v_nl, .ref a_ho, .ref a_fi, .int v_nf, .ref a_cz, .int v_nc]))]) hD hS hA [0] rfl
                        refine va_calli (va_runV (As := [.int x_90.2.1]) (rest := []) ⟨hx, hb, hml, hown, hts⟩ (c_Mg_bad l dC dI adK adV (a_m := a_m) (p0 := x_90.2.1) (v_th := v_th) (a_sa := a_sa) (v_sz := v_sz) (v_at := x_90.2.1) (v_wr := x_90.2.2) (a_ru := a_ru) (a_me := a_me) (a_le := a_le) (v_n := v_n) (a_cl := a_cl) (a_te := a_te) (a_ki := a_ki) (a_ty := a_ty) (a_bl := a_bl) (a_ex := a_ex) (a_lo := a_lo) (v_nl := v_nl) (a_ho := a_ho) (a_fi := a_fi) (v_nf := v_nf) (a_cz := a_cz) (v_nc := v_nc) (sz := H.size)) (cwV 1 hts (gV tw_688 tw_690 tw_28 tw_46 tw_691) rfl rfl rfl (by decide +kernel) ⟨(Nat.le_of_ble_eq_true rfl), (Nat.le_of_ble_eq_true rfl)⟩) ⟨fun a U g mk q => by obtain ⟨q0, q1, qZ, qP, qK, qD⟩ := q; exact ⟨q0, q1, zz_call qZ, qP, va_K.moved (u := U) (U := U.calling g mk a) (Vm.Alike.refl U.vm) qK, qD⟩, va_recv hKc hPc (ci := 5) (q0 := 0) rfl rfl, fun U hU hW => ⟨rfl, by rw [hU], zz_rw hS hFc hU hW hZ, by rw [hU]; exact hPc, va_K.moved hW.alike hKc, hDc.weaken (fun _ _ _ _ => trivial)⟩⟩ rfl rfl hl.1 rfl (lv_room (Nat.le_of_ble_eq_true rfl)) d_M_reads_157 ⟨(Nat.le_of_ble_eq_true rfl), (Nat.le_of_ble_eq_true rfl)⟩) hS (fun q _ h => hFc q h) hFc (fun r_107 u t H1 locs ht hvm hw_108 hB hz1 hk1 hS => ?_)
                        obtain ⟨hP1, hK1, hD1⟩ := hB
                        rw [ht] at hP1
                        have hK1 := va_K.moved hvm.symm hK1
                        obtain rfl : r_107 = 0 := hw_108
                        obtain ⟨hP, hD⟩ := va_join (wr := [(a_sa, .inl (k_sa, 120, .inl f_sa)), (a_ru, .inl (k_ru, 410, .inl R))]) (w1 := [(a_m, .inr (5, [.int v_th, .ref a_sa, .int v_sz, .int x_90.2.1, .int x_90.2.1, .ref a_ru, .ref a_me, .ref a_le, .int v_n, .ref a_cl, .ref a_te, .ref a_ki, .ref a_ty, .ref a_bl, .ref a_ex, .ref a_lo, .int v_nl, .ref a_ho, .ref a_fi, .int v_nf, .ref a_cz, .int v_nc]))]) hP hD [0] [1, 2] rfl rfl (by decide) (by decide) hk1 hFc hP1 hD1
                        replace hK := (hK.sub (tys' := [(k_sa, .byte), (k_ru, .int)]) [0, 1] rfl).app hK1
                        generalize H1 = H at hP hS ⊢
                        replace hP := hP.sub (ws' := [(a_m, .inr (5, [.int v_th, .ref a_sa, .int v_sz, .int x_90.2.1, .int x_90.2.1, .ref a_ru, .ref a_me, .ref a_le, .int v_n, .ref a_cl, .ref a_te, .ref a_ki, .ref a_ty, .ref a_bl, .ref a_ex, .ref a_lo, .int v_nl, .ref a_ho, .ref a_fi, .int v_nf, .ref a_cz, .int v_nc])), (a_sa, .inl (k_sa, 120, .inl f_sa)), (a_ru, .inl (k_ru, 410, .inl R))]) [2, 0, 1] rfl
                        replace hD := hD.sub (ws' := [(a_m, .inr (5, [.int v_th, .ref a_sa, .int v_sz, .int x_90.2.1, .int x_90.2.1, .ref a_ru, .ref a_me, .ref a_le, .int v_n, .ref a_cl, .ref a_te, .ref a_ki, .ref a_ty, .ref a_bl, .ref a_ex, .ref a_lo, .int v_nl, .ref a_ho, .ref a_fi, .int v_nf, .ref a_cz, .int v_nc])), (a_sa, .inl (k_sa, 120, .inl f_sa)), (a_ru, .inl (k_ru, 410, .inl R))]) [2, 0, 1] (by decide) rfl
                        replace hK := hK.sub (tys' := [(k_sa, .byte), (k_ru, .int)]) [0, 1] rfl
                        have hP9 := hP.sub (ws' := [(a_m, .inr (5, [.int v_th, .ref a_sa, .int v_sz, .int x_90.2.1, .int x_90.2.1, .ref a_ru, .ref a_me, .ref a_le, .int v_n, .ref a_cl, .ref a_te, .ref a_ki, .ref a_ty, .ref a_bl, .ref a_ex, .ref a_lo, .int v_nl, .ref a_ho, .ref a_fi, .int v_nf, .ref a_cz, .int v_nc])), (a_sa, .inl (k_sa, 120, .inl f_sa)), (a_ru, .inl (k_ru, 410, .inl R))]) [0, 1, 2] rfl
                        have hD9 := hD.sub (ws' := [(a_m, .inr (5, [.int v_th, .ref a_sa, .int v_sz, .int x_90.2.1, .int x_90.2.1, .ref a_ru, .ref a_me, .ref a_le, .int v_n, .ref a_cl, .ref a_te, .ref a_ki, .ref a_ty, .ref a_bl, .ref a_ex, .ref a_lo, .int v_nl, .ref a_ho, .ref a_fi, .int v_nf, .ref a_cz, .int v_nc])), (a_sa, .inl (k_sa, 120, .inl f_sa)), (a_ru, .inl (k_ru, 410, .inl R))]) [0, 1, 2] (by decide) rfl
                        have hK9 := hK.sub (tys' := [(k_sa, .byte), (k_ru, .int)]) [0, 1] rfl
                        exact W.zret (v := 0) hx hb hr rfl (fun t ht hW => ⟨⟨0, (), rfl, by rw [← hz, hE], by rw [ht, ← hz, hE]; exact hP9, va_K.moved hW.alike hK9, by rw [← hz, hE]; exact hD9⟩, hS.F ht⟩) hS.2.2 d_M_reads_160
                      · refine lv_iload_n hx hb d_M_reads_148 rfl (lv_at hl 0 rfl) ?_
                        refine lv_if_ne (tgt := 161) hx hb d_M_reads_149 (by decide) (fun c_109 => ?_) (fun c_109 => ?_)
                        · exact absurd (by decide) c_109
                        · subst hg_rd1
                          dsimp only at hE
                          rw [if_neg (by decide)] at hE
                          rw [if_neg (by decide)] at hE
                          rw [if_pos rfl] at hE
                          refine lv_aload_n hx hb d_M_reads_152 rfl (lv_at hl 3 rfl) ?_
                          refine lv_aload_n hx hb d_M_reads_153 rfl (lv_at hl 3 rfl) ?_
                          refine va_get (D := (dC, dI)) (ci := 5) (v := .int x_90.2.1) (C := "LoanRulesModel") (T := Fz_M) (N := 22) hx hb hts it_M hown hK hP 0 rfl rfl 3 (by decide) (hts _ tw_604) (fun _ h9 => h9) rfl d_M_reads_154 ?_
                          have hPc := hP.sub (ws' := [(a_m, .inr (5, [.int v_th, .ref a_sa, .int v_sz, .int x_90.2.1, .int x_90.2.2, .ref a_ru, .ref a_me, .ref a_le, .int v_n, .ref a_cl, .ref a_te, .ref a_ki, .ref a_ty, .ref a_bl, .ref a_ex, .ref a_lo, .int v_nl, .ref a_ho, .ref a_fi, .int v_nf, .ref a_cz, .int v_nc]))]) [0] rfl
                          have hKc := hK.sub (tys' := []) [] rfl
                          have hDc := hD.sub (ws' := [(a_m, .inr (5, [.int v_th, .ref a_sa, .int v_sz, .int x_90.2.1, .int x_90.2.2, .ref a_ru, .ref a_me, .ref a_le, .int v_n, .ref a_cl, .ref a_te, .ref a_ki, .ref a_ty, .ref a_bl, .ref a_ex, .ref a_lo, .int v_nl, .ref a_ho, .ref a_fi, .int v_nf, .ref a_cz, .int v_nc]))]) [0] (by decide) rfl
                          have hFc := va_free (wc := [(a_m, .inr (5, [.int v_th, .ref a_sa, .int v_sz, .int x_90.2.1, .int x_90.2.2, .ref a_ru, .ref a_me, .ref a_le, .int v_n, .ref a_cl, .ref a_te, .ref a_ki, .ref a_ty, .ref a_bl, .ref a_ex, .ref a_lo, .int v_nl, .ref a_ho, .ref a_fi, .int v_nf, .ref a_cz, .int v_nc]))]) hD hS hA [0] rfl
                          refine va_calli (va_runV (As := [.int x_90.2.1]) (rest := []) ⟨hx, hb, hml, hown, hts⟩ (c_Mg_bad l dC dI adK adV (a_m := a_m) (p0 := x_90.2.1) (v_th := v_th) (a_sa := a_sa) (v_sz := v_sz) (v_at := x_90.2.1) (v_wr := x_90.2.2) (a_ru := a_ru) (a_me := a_me) (a_le := a_le) (v_n := v_n) (a_cl := a_cl) (a_te := a_te) (a_ki := a_ki) (a_ty := a_ty) (a_bl := a_bl) (a_ex := a_ex) (a_lo := a_lo) (v_nl := v_nl) (a_ho := a_ho) (a_fi := a_fi) (v_nf := v_nf) (a_cz := a_cz) (v_nc := v_nc) (sz := H.size)) (cwV 1 hts (gV tw_688 tw_690 tw_28 tw_46 tw_691) rfl rfl rfl (by decide +kernel) ⟨(Nat.le_of_ble_eq_true rfl), (Nat.le_of_ble_eq_true rfl)⟩) ⟨fun a U g mk q => by obtain ⟨q0, q1, qZ, qP, qK, qD⟩ := q; exact ⟨q0, q1, zz_call qZ, qP, va_K.moved (u := U) (U := U.calling g mk a) (Vm.Alike.refl U.vm) qK, qD⟩, va_recv hKc hPc (ci := 5) (q0 := 0) rfl rfl, fun U hU hW => ⟨rfl, by rw [hU], zz_rw hS hFc hU hW hZ, by rw [hU]; exact hPc, va_K.moved hW.alike hKc, hDc.weaken (fun _ _ _ _ => trivial)⟩⟩ rfl rfl hl.1 rfl (lv_room (Nat.le_of_ble_eq_true rfl)) d_M_reads_157 ⟨(Nat.le_of_ble_eq_true rfl), (Nat.le_of_ble_eq_true rfl)⟩) hS (fun q _ h => hFc q h) hFc (fun r_110 u t H1 locs ht hvm hw_111 hB hz1 hk1 hS => ?_)
                          obtain ⟨hP1, hK1, hD1⟩ := hB
                          rw [ht] at hP1
                          have hK1 := va_K.moved hvm.symm hK1
                          obtain rfl : r_110 = 0 := hw_111
                          obtain ⟨hP, hD⟩ := va_join (wr := [(a_sa, .inl (k_sa, 120, .inl f_sa)), (a_ru, .inl (k_ru, 410, .inl R))]) (w1 := [(a_m, .inr (5, [.int v_th, .ref a_sa, .int v_sz, .int x_90.2.1, .int x_90.2.1, .ref a_ru, .ref a_me, .ref a_le, .int v_n, .ref a_cl, .ref a_te, .ref a_ki, .ref a_ty, .ref a_bl, .ref a_ex, .ref a_lo, .int v_nl, .ref a_ho, .ref a_fi, .int v_nf, .ref a_cz, .int v_nc]))]) hP hD [0] [1, 2] rfl rfl (by decide) (by decide) hk1 hFc hP1 hD1
                          replace hK := (hK.sub (tys' := [(k_sa, .byte), (k_ru, .int)]) [0, 1] rfl).app hK1
                          generalize H1 = H at hP hS ⊢
                          replace hP := hP.sub (ws' := [(a_m, .inr (5, [.int v_th, .ref a_sa, .int v_sz, .int x_90.2.1, .int x_90.2.1, .ref a_ru, .ref a_me, .ref a_le, .int v_n, .ref a_cl, .ref a_te, .ref a_ki, .ref a_ty, .ref a_bl, .ref a_ex, .ref a_lo, .int v_nl, .ref a_ho, .ref a_fi, .int v_nf, .ref a_cz, .int v_nc])), (a_sa, .inl (k_sa, 120, .inl f_sa)), (a_ru, .inl (k_ru, 410, .inl R))]) [2, 0, 1] rfl
                          replace hD := hD.sub (ws' := [(a_m, .inr (5, [.int v_th, .ref a_sa, .int v_sz, .int x_90.2.1, .int x_90.2.1, .ref a_ru, .ref a_me, .ref a_le, .int v_n, .ref a_cl, .ref a_te, .ref a_ki, .ref a_ty, .ref a_bl, .ref a_ex, .ref a_lo, .int v_nl, .ref a_ho, .ref a_fi, .int v_nf, .ref a_cz, .int v_nc])), (a_sa, .inl (k_sa, 120, .inl f_sa)), (a_ru, .inl (k_ru, 410, .inl R))]) [2, 0, 1] (by decide) rfl
                          replace hK := hK.sub (tys' := [(k_sa, .byte), (k_ru, .int)]) [0, 1] rfl
                          have hP9 := hP.sub (ws' := [(a_m, .inr (5, [.int v_th, .ref a_sa, .int v_sz, .int x_90.2.1, .int x_90.2.1, .ref a_ru, .ref a_me, .ref a_le, .int v_n, .ref a_cl, .ref a_te, .ref a_ki, .ref a_ty, .ref a_bl, .ref a_ex, .ref a_lo, .int v_nl, .ref a_ho, .ref a_fi, .int v_nf, .ref a_cz, .int v_nc])), (a_sa, .inl (k_sa, 120, .inl f_sa)), (a_ru, .inl (k_ru, 410, .inl R))]) [0, 1, 2] rfl
                          have hD9 := hD.sub (ws' := [(a_m, .inr (5, [.int v_th, .ref a_sa, .int v_sz, .int x_90.2.1, .int x_90.2.1, .ref a_ru, .ref a_me, .ref a_le, .int v_n, .ref a_cl, .ref a_te, .ref a_ki, .ref a_ty, .ref a_bl, .ref a_ex, .ref a_lo, .int v_nl, .ref a_ho, .ref a_fi, .int v_nf, .ref a_cz, .int v_nc])), (a_sa, .inl (k_sa, 120, .inl f_sa)), (a_ru, .inl (k_ru, 410, .inl R))]) [0, 1, 2] (by decide) rfl
                          have hK9 := hK.sub (tys' := [(k_sa, .byte), (k_ru, .int)]) [0, 1] rfl
                          exact W.zret (v := 0) hx hb hr rfl (fun t ht hW => ⟨⟨0, (), rfl, by rw [← hz, hE], by rw [ht, ← hz, hE]; exact hP9, va_K.moved hW.alike hK9, by rw [← hz, hE]; exact hD9⟩, hS.F ht⟩) hS.2.2 d_M_reads_160
                    · rw [if_pos c_105] at hg_rd1
                      refine lv_goto (tgt := 138) hx hb d_M_reads_129 (by decide) ?_
                      refine lv_iconst (v := 1) hx hb d_M_reads_138 (by decide) ?_
                      refine lv_goto (tgt := 143) hx hb d_M_reads_139 (by decide) ?_
                      refine lv_istore_n (lv' := [(3, .int 1), (2, .int (g_Mg_step (g_Mg_word v_sz x_90.2.1 f_sa))), (1, .int la), (0, .ref a_m)]) hx hb d_M_reads_143 rfl hl (by decide) rfl (fun ls hl => ?_)
                      refine lv_iload_n hx hb d_M_reads_144 rfl (lv_at hl 1 rfl) ?_
                      refine lv_if_eq (tgt := 152) hx hb d_M_reads_145 (by decide) (fun c_112 => ?_) (fun c_112 => ?_)
                      · rw [if_pos c_112] at hg_rd1
                        subst hg_rd1
                        dsimp only at hE
                        rw [if_neg (by decide)] at hE
                        rw [if_neg (by decide)] at hE
                        rw [if_pos rfl] at hE
                        refine lv_aload_n hx hb d_M_reads_152 rfl (lv_at hl 3 rfl) ?_
                        refine lv_aload_n hx hb d_M_reads_153 rfl (lv_at hl 3 rfl) ?_
                        refine va_get (D := (dC, dI)) (ci := 5) (v := .int x_90.2.1) (C := "LoanRulesModel") (T := Fz_M) (N := 22) hx hb hts it_M hown hK hP 0 rfl rfl 3 (by decide) (hts _ tw_604) (fun _ h9 => h9) rfl d_M_reads_154 ?_
                        have hPc := hP.sub (ws' := [(a_m, .inr (5, [.int v_th, .ref a_sa, .int v_sz, .int x_90.2.1, .int x_90.2.2, .ref a_ru, .ref a_me, .ref a_le, .int v_n, .ref a_cl, .ref a_te, .ref a_ki, .ref a_ty, .ref a_bl, .ref a_ex, .ref a_lo, .int v_nl, .ref a_ho, .ref a_fi, .int v_nf, .ref a_cz, .int v_nc]))]) [0] rfl
                        have hKc := hK.sub (tys' := []) [] rfl
                        have hDc := hD.sub (ws' := [(a_m, .inr (5, [.int v_th, .ref a_sa, .int v_sz, .int x_90.2.1, .int x_90.2.2, .ref a_ru, .ref a_me, .ref a_le, .int v_n, .ref a_cl, .ref a_te, .ref a_ki, .ref a_ty, .ref a_bl, .ref a_ex, .ref a_lo, .int v_nl, .ref a_ho, .ref a_fi, .int v_nf, .ref a_cz, .int v_nc]))]) [0] (by decide) rfl
                        have hFc := va_free (wc := [(a_m, .inr (5, [.int v_th, .ref a_sa, .int v_sz, .int x_90.2.1, .int x_90.2.2, .ref a_ru, .ref a_me, .ref a_le, .int v_n, .ref a_cl, .ref a_te, .ref a_ki, .ref a_ty, .ref a_bl, .ref a_ex, .ref a_lo, .int v_nl, .ref a_ho, .ref a_fi, .int v_nf, .ref a_cz, .int v_nc]))]) hD hS hA [0] rfl
                        refine va_calli (va_runV (As := [.int x_90.2.1]) (rest := []) ⟨hx, hb, hml, hown, hts⟩ (c_Mg_bad l dC dI adK adV (a_m := a_m) (p0 := x_90.2.1) (v_th := v_th) (a_sa := a_sa) (v_sz := v_sz) (v_at := x_90.2.1) (v_wr := x_90.2.2) (a_ru := a_ru) (a_me := a_me) (a_le := a_le) (v_n := v_n) (a_cl := a_cl) (a_te := a_te) (a_ki := a_ki) (a_ty := a_ty) (a_bl := a_bl) (a_ex := a_ex) (a_lo := a_lo) (v_nl := v_nl) (a_ho := a_ho) (a_fi := a_fi) (v_nf := v_nf) (a_cz := a_cz) (v_nc := v_nc) (sz := H.size)) (cwV 1 hts (gV tw_688 tw_690 tw_28 tw_46 tw_691) rfl rfl rfl (by decide +kernel) ⟨(Nat.le_of_ble_eq_true rfl), (Nat.le_of_ble_eq_true rfl)⟩) ⟨fun a U g mk q => by obtain ⟨q0, q1, qZ, qP, qK, qD⟩ := q; exact ⟨q0, q1, zz_call qZ, qP, va_K.moved (u := U) (U := U.calling g mk a) (Vm.Alike.refl U.vm) qK, qD⟩, va_recv hKc hPc (ci := 5) (q0 := 0) rfl rfl, fun U hU hW => ⟨rfl, by rw [hU], zz_rw hS hFc hU hW hZ, by rw [hU]; exact hPc, va_K.moved hW.alike hKc, hDc.weaken (fun _ _ _ _ => trivial)⟩⟩ rfl rfl hl.1 rfl (lv_room (Nat.le_of_ble_eq_true rfl)) d_M_reads_157 ⟨(Nat.le_of_ble_eq_true rfl), (Nat.le_of_ble_eq_true rfl)⟩) hS (fun q _ h => hFc q h) hFc (fun r_113 u t H1 locs ht hvm hw_114 hB hz1 hk1 hS => ?_)
                        obtain ⟨hP1, hK1, hD1⟩ := hB
                        rw [ht] at hP1
                        have hK1 := va_K.moved hvm.symm hK1
                        obtain rfl : r_113 = 0 := hw_114
                        obtain ⟨hP, hD⟩ := va_join (wr := [(a_sa, .inl (k_sa, 120, .inl f_sa)), (a_ru, .inl (k_ru, 410, .inl R))]) (w1 := [(a_m, .inr (5, [.int v_th, .ref a_sa, .int v_sz, .int x_90.2.1, .int x_90.2.1, .ref a_ru, .ref a_me, .ref a_le, .int v_n, .ref a_cl, .ref a_te, .ref a_ki, .ref a_ty, .ref a_bl, .ref a_ex, .ref a_lo, .int v_nl, .ref a_ho, .ref a_fi, .int v_nf, .ref a_cz, .int v_nc]))]) hP hD [0] [1, 2] rfl rfl (by decide) (by decide) hk1 hFc hP1 hD1
                        replace hK := (hK.sub (tys' := [(k_sa, .byte), (k_ru, .int)]) [0, 1] rfl).app hK1
                        generalize H1 = H at hP hS ⊢
                        replace hP := hP.sub (ws' := [(a_m, .inr (5, [.int v_th, .ref a_sa, .int v_sz, .int x_90.2.1, .int x_90.2.1, .ref a_ru, .ref a_me, .ref a_le, .int v_n, .ref a_cl, .ref a_te, .ref a_ki, .ref a_ty, .ref a_bl, .ref a_ex, .ref a_lo, .int v_nl, .ref a_ho, .ref a_fi, .int v_nf, .ref a_cz, .int v_nc])), (a_sa, .inl (k_sa, 120, .inl f_sa)), (a_ru, .inl (k_ru, 410, .inl R))]) [2, 0, 1] rfl
                        replace hD := hD.sub (ws' := [(a_m, .inr (5, [.int v_th, .ref a_sa, .int v_sz, .int x_90.2.1, .int x_90.2.1, .ref a_ru, .ref a_me, .ref a_le, .int v_n, .ref a_cl, .ref a_te, .ref a_ki, .ref a_ty, .ref a_bl, .ref a_ex, .ref a_lo, .int v_nl, .ref a_ho, .ref a_fi, .int v_nf, .ref a_cz, .int v_nc])), (a_sa, .inl (k_sa, 120, .inl f_sa)), (a_ru, .inl (k_ru, 410, .inl R))]) [2, 0, 1] (by decide) rfl
                        replace hK := hK.sub (tys' := [(k_sa, .byte), (k_ru, .int)]) [0, 1] rfl
                        have hP9 := hP.sub (ws' := [(a_m, .inr (5, [.int v_th, .ref a_sa, .int v_sz, .int x_90.2.1, .int x_90.2.1, .ref a_ru, .ref a_me, .ref a_le, .int v_n, .ref a_cl, .ref a_te, .ref a_ki, .ref a_ty, .ref a_bl, .ref a_ex, .ref a_lo, .int v_nl, .ref a_ho, .ref a_fi, .int v_nf, .ref a_cz, .int v_nc])), (a_sa, .inl (k_sa, 120, .inl f_sa)), (a_ru, .inl (k_ru, 410, .inl R))]) [0, 1, 2] rfl
                        have hD9 := hD.sub (ws' := [(a_m, .inr (5, [.int v_th, .ref a_sa, .int v_sz, .int x_90.2.1, .int x_90.2.1, .ref a_ru, .ref a_me, .ref a_le, .int v_n, .ref a_cl, .ref a_te, .ref a_ki, .ref a_ty, .ref a_bl, .ref a_ex, .ref a_lo, .int v_nl, .ref a_ho, .ref a_fi, .int v_nf, .ref a_cz, .int v_nc])), (a_sa, .inl (k_sa, 120, .inl f_sa)), (a_ru, .inl (k_ru, 410, .inl R))]) [0, 1, 2] (by decide) rfl
                        have hK9 := hK.sub (tys' := [(k_sa, .byte), (k_ru, .int)]) [0, 1] rfl
                        exact W.zret (v := 0) hx hb hr rfl (fun t ht hW => ⟨⟨0, (), rfl, by rw [← hz, hE], by rw [ht, ← hz, hE]; exact hP9, va_K.moved hW.alike hK9, by rw [← hz, hE]; exact hD9⟩, hS.F ht⟩) hS.2.2 d_M_reads_160
                      · rw [if_neg c_112] at hg_rd1
                        refine lv_iload_n hx hb d_M_reads_148 rfl (lv_at hl 0 rfl) ?_
                        refine lv_if_ne (tgt := 161) hx hb d_M_reads_149 (by decide) (fun c_115 => ?_) (fun c_115 => ?_)
                        · refine lv_aload_n hx hb d_M_reads_161 rfl (lv_at hl 3 rfl) ?_
                          have hPc := hP.sub (ws' := [(a_m, .inr (5, [.int v_th, .ref a_sa, .int v_sz, .int x_90.2.1, .int x_90.2.2, .ref a_ru, .ref a_me, .ref a_le, .int v_n, .ref a_cl, .ref a_te, .ref a_ki, .ref a_ty, .ref a_bl, .ref a_ex, .ref a_lo, .int v_nl, .ref a_ho, .ref a_fi, .int v_nf, .ref a_cz, .int v_nc])), (a_sa, .inl (k_sa, 120, .inl f_sa))]) [0, 1] rfl
                          have hKc := hK.sub (tys' := [(k_sa, .byte)]) [0] rfl
                          have hDc := hD.sub (ws' := [(a_m, .inr (5, [.int v_th, .ref a_sa, .int v_sz, .int x_90.2.1, .int x_90.2.2, .ref a_ru, .ref a_me, .ref a_le, .int v_n, .ref a_cl, .ref a_te, .ref a_ki, .ref a_ty, .ref a_bl, .ref a_ex, .ref a_lo, .int v_nl, .ref a_ho, .ref a_fi, .int v_nf, .ref a_cz, .int v_nc])), (a_sa, .inl (k_sa, 120, .inl f_sa))]) [0, 1] (by decide) rfl
                          have hFc := va_free (wc := [(a_m, .inr (5, [.int v_th, .ref a_sa, .int v_sz, .int x_90.2.1, .int x_90.2.2, .ref a_ru, .ref a_me, .ref a_le, .int v_n, .ref a_cl, .ref a_te, .ref a_ki, .ref a_ty, .ref a_bl, .ref a_ex, .ref a_lo, .int v_nl, .ref a_ho, .ref a_fi, .int v_nf, .ref a_cz, .int v_nc])), (a_sa, .inl (k_sa, 120, .inl f_sa))]) hD hS hA [0, 1] rfl
                          refine va_callv (va_runV (As := []) (rest := []) ⟨hx, hb, hml, hown, hts⟩ (c_Mg_pass l dC dI adK adV (a_m := a_m) (v_th := v_th) (a_sa := a_sa) (v_sz := v_sz) (v_at := x_90.2.1) (v_wr := x_90.2.2) (a_ru := a_ru) (a_me := a_me) (a_le := a_le) (v_n := v_n) (a_cl := a_cl) (a_te := a_te) (a_ki := a_ki) (a_ty := a_ty) (a_bl := a_bl) (a_ex := a_ex) (a_lo := a_lo) (v_nl := v_nl) (a_ho := a_ho) (a_fi := a_fi) (v_nf := v_nf) (a_cz := a_cz) (v_nc := v_nc) (k_sa := k_sa) (f_sa := f_sa) (sz := H.size) hsz (hg_x_90 ▸ space_at hsz ha)) (cwV 0 hts (gV tw_712 tw_714 tw_30 tw_46 tw_715) rfl rfl rfl (by decide +kernel) ⟨(Nat.le_of_ble_eq_true rfl), (Nat.le_of_ble_eq_true rfl)⟩) ⟨fun a U g mk q => by obtain ⟨q0, q1, qZ, qP, qK, qD⟩ := q; exact ⟨q0, q1, zz_call qZ, qP, va_K.moved (u := U) (U := U.calling g mk a) (Vm.Alike.refl U.vm) qK, qD⟩, va_recv hKc hPc (ci := 5) (q0 := 0) rfl rfl, fun U hU hW => ⟨rfl, by rw [hU], zz_rw hS hFc hU hW hZ, by rw [hU]; exact hPc, va_K.moved hW.alike hKc, hDc.weaken (fun _ _ _ _ => trivial)⟩⟩ rfl rfl hl.1 rfl (lv_room (Nat.le_of_ble_eq_true rfl)) d_M_reads_162 ⟨(Nat.le_of_ble_eq_true rfl), (Nat.le_of_ble_eq_true rfl)⟩) hS (fun q _ h => hFc q h) hFc (fun u t H1 locs ht hvm hw_116 hB hz1 hk1 hS => ?_)
                          generalize hg_x_117 : g_Mg_pass v_sz x_90.2.1 f_sa = x_117 at hw_116 hB hg_rd1
                          rw [bv_eq] at hg_rd1
                          obtain ⟨hP1, hK1, hD1⟩ := hB
                          rw [ht] at hP1
                          have hK1 := va_K.moved hvm.symm hK1
                          obtain ⟨hP, hD⟩ := va_join (wr := [(a_ru, .inl (k_ru, 410, .inl R))]) (w1 := [(a_m, .inr (5, [.int v_th, .ref a_sa, .int v_sz, .int x_117, .int x_90.2.2, .ref a_ru, .ref a_me, .ref a_le, .int v_n, .ref a_cl, .ref a_te, .ref a_ki, .ref a_ty, .ref a_bl, .ref a_ex, .ref a_lo, .int v_nl, .ref a_ho, .ref a_fi, .int v_nf, .ref a_cz, .int v_nc])), (a_sa, .inl (k_sa, 120, .inl f_sa))]) hP hD [0, 1] [2] rfl rfl (by decide) (by decide) hk1 hFc hP1 hD1
                          replace hK := (hK.sub (tys' := [(k_ru, .int)]) [1] rfl).app hK1
                          generalize H1 = H at hP hS ⊢
                          replace hP := hP.sub (ws' := [(a_m, .inr (5, [.int v_th, .ref a_sa, .int v_sz, .int x_117, .int x_90.2.2, .ref a_ru, .ref a_me, .ref a_le, .int v_n, .ref a_cl, .ref a_te, .ref a_ki, .ref a_ty, .ref a_bl, .ref a_ex, .ref a_lo, .int v_nl, .ref a_ho, .ref a_fi, .int v_nf, .ref a_cz, .int v_nc])), (a_sa, .inl (k_sa, 120, .inl f_sa)), (a_ru, .inl (k_ru, 410, .inl R))]) [1, 2, 0] rfl
                          replace hD := hD.sub (ws' := [(a_m, .inr (5, [.int v_th, .ref a_sa, .int v_sz, .int x_117, .int x_90.2.2, .ref a_ru, .ref a_me, .ref a_le, .int v_n, .ref a_cl, .ref a_te, .ref a_ki, .ref a_ty, .ref a_bl, .ref a_ex, .ref a_lo, .int v_nl, .ref a_ho, .ref a_fi, .int v_nf, .ref a_cz, .int v_nc])), (a_sa, .inl (k_sa, 120, .inl f_sa)), (a_ru, .inl (k_ru, 410, .inl R))]) [1, 2, 0] (by decide) rfl
                          replace hK := hK.sub (tys' := [(k_sa, .byte), (k_ru, .int)]) [1, 0] rfl
                          refine lv_aload_n hx hb d_M_reads_165 rfl (lv_at hl 3 rfl) ?_
                          refine lv_iload_n hx hb d_M_reads_166 rfl (lv_at hl 1 rfl) ?_
                          have hPc := hP.sub (ws' := [(a_m, .inr (5, [.int v_th, .ref a_sa, .int v_sz, .int x_117, .int x_90.2.2, .ref a_ru, .ref a_me, .ref a_le, .int v_n, .ref a_cl, .ref a_te, .ref a_ki, .ref a_ty, .ref a_bl, .ref a_ex, .ref a_lo, .int v_nl, .ref a_ho, .ref a_fi, .int v_nf, .ref a_cz, .int v_nc])), (a_sa, .inl (k_sa, 120, .inl f_sa)), (a_ru, .inl (k_ru, 410, .inl R))]) [0, 1, 2] rfl
                          have hKc := hK.sub (tys' := [(k_sa, .byte), (k_ru, .int)]) [0, 1] rfl
                          have hDc := hD.sub (ws' := [(a_m, .inr (5, [.int v_th, .ref a_sa, .int v_sz, .int x_117, .int x_90.2.2, .ref a_ru, .ref a_me, .ref a_le, .int v_n, .ref a_cl, .ref a_te, .ref a_ki, .ref a_ty, .ref a_bl, .ref a_ex, .ref a_lo, .int v_nl, .ref a_ho, .ref a_fi, .int v_nf, .ref a_cz, .int v_nc])), (a_sa, .inl (k_sa, 120, .inl f_sa)), (a_ru, .inl (k_ru, 410, .inl R))]) [0, 1, 2] (by decide) rfl
                          have hFc := va_free (wc := [(a_m, .inr (5, [.int v_th, .ref a_sa, .int v_sz, .int x_117, .int x_90.2.2, .ref a_ru, .ref a_me, .ref a_le, .int v_n, .ref a_cl, .ref a_te, .ref a_ki, .ref a_ty, .ref a_bl, .ref a_ex, .ref a_lo, .int v_nl, .ref a_ho, .ref a_fi, .int v_nf, .ref a_cz, .int v_nc])), (a_sa, .inl (k_sa, 120, .inl f_sa)), (a_ru, .inl (k_ru, 410, .inl R))]) hD hS hA [0, 1, 2] rfl
                          refine va_calli (va_runV (As := [.int (g_Mg_step (g_Mg_word v_sz x_90.2.1 f_sa))]) (rest := []) ⟨hx, hb, hml, hown, hts⟩ (c_Mg_one l dC dI adK adV (a_m := a_m) (p0 := g_Mg_step (g_Mg_word v_sz x_90.2.1 f_sa)) (v_th := v_th) (a_sa := a_sa) (v_sz := v_sz) (v_at := x_117) (v_wr := x_90.2.2) (a_ru := a_ru) (a_me := a_me) (a_le := a_le) (v_n := v_n) (a_cl := a_cl) (a_te := a_te) (a_ki := a_ki) (a_ty := a_ty) (a_bl := a_bl) (a_ex := a_ex) (a_lo := a_lo) (v_nl := v_nl) (a_ho := a_ho) (a_fi := a_fi) (v_nf := v_nf) (a_cz := a_cz) (v_nc := v_nc) (k_sa := k_sa) (f_sa := f_sa) (k_ru := k_ru) (f_ru := R) (sz := H.size) hsz (hg_x_117 ▸ pass_at hsz (hg_x_90 ▸ space_at hsz ha)) hn) (cwV 1 hts (gV tw_716 tw_718 tw_31 tw_46 tw_719) rfl rfl rfl (by decide +kernel) ⟨(Nat.le_of_ble_eq_true rfl), (Nat.le_of_ble_eq_true rfl)⟩) ⟨fun a U g mk q => by obtain ⟨q0, q1, qZ, qP, qK, qD⟩ := q; exact ⟨q0, q1, zz_call qZ, qP, va_K.moved (u := U) (U := U.calling g mk a) (Vm.Alike.refl U.vm) qK, qD⟩, va_recv hKc hPc (ci := 5) (q0 := 0) rfl rfl, fun U hU hW => ⟨rfl, by rw [hU], zz_rw hS hFc hU hW hZ, by rw [hU]; exact hPc, va_K.moved hW.alike hKc, hDc.weaken (fun _ _ _ _ => trivial)⟩⟩ rfl rfl hl.1 rfl (lv_room (Nat.le_of_ble_eq_true rfl)) d_M_reads_167 ⟨(Nat.le_of_ble_eq_true rfl), (Nat.le_of_ble_eq_true rfl)⟩) hS (fun q _ h => hFc q h) hFc (fun r_118 u t H1 locs ht hvm hw_119 hB hz1 hk1 hS => ?_)
                          generalize hg_x_120 : g_Mg_one (g_Mg_step (g_Mg_word v_sz x_90.2.1 f_sa)) v_sz x_117 x_90.2.2 v_n f_sa R = x_120 at hw_119 hB hg_rd1
                          rw [bv_eq] at hg_rd1
                          obtain ⟨hP1, hK1, hD1⟩ := hB
                          rw [ht] at hP1
                          have hK1 := va_K.moved hvm.symm hK1
                          obtain rfl : r_118 = x_120.1 := hw_119
                          obtain ⟨hP, hD⟩ := va_join (wr := []) (w1 := [(a_m, .inr (5, [.int v_th, .ref a_sa, .int v_sz, .int x_120.2.1, .int x_120.2.2.1, .ref a_ru, .ref a_me, .ref a_le, .int v_n, .ref a_cl, .ref a_te, .ref a_ki, .ref a_ty, .ref a_bl, .ref a_ex, .ref a_lo, .int v_nl, .ref a_ho, .ref a_fi, .int v_nf, .ref a_cz, .int v_nc])), (a_sa, .inl (k_sa, 120, .inl f_sa)), (a_ru, .inl (k_ru, 410, .inl x_120.2.2.2))]) hP hD [0, 1, 2] [] rfl rfl (by decide) (by decide) hk1 hFc hP1 hD1
                          replace hK := (hK.sub (tys' := []) [] rfl).app hK1
                          generalize H1 = H at hP hS ⊢
                          replace hP := hP.sub (ws' := [(a_m, .inr (5, [.int v_th, .ref a_sa, .int v_sz, .int x_120.2.1, .int x_120.2.2.1, .ref a_ru, .ref a_me, .ref a_le, .int v_n, .ref a_cl, .ref a_te, .ref a_ki, .ref a_ty, .ref a_bl, .ref a_ex, .ref a_lo, .int v_nl, .ref a_ho, .ref a_fi, .int v_nf, .ref a_cz, .int v_nc])), (a_sa, .inl (k_sa, 120, .inl f_sa)), (a_ru, .inl (k_ru, 410, .inl x_120.2.2.2))]) [0, 1, 2] rfl
                          replace hD := hD.sub (ws' := [(a_m, .inr (5, [.int v_th, .ref a_sa, .int v_sz, .int x_120.2.1, .int x_120.2.2.1, .ref a_ru, .ref a_me, .ref a_le, .int v_n, .ref a_cl, .ref a_te, .ref a_ki, .ref a_ty, .ref a_bl, .ref a_ex, .ref a_lo, .int v_nl, .ref a_ho, .ref a_fi, .int v_nf, .ref a_cz, .int v_nc])), (a_sa, .inl (k_sa, 120, .inl f_sa)), (a_ru, .inl (k_ru, 410, .inl x_120.2.2.2))]) [0, 1, 2] (by decide) rfl
                          replace hK := hK.sub (tys' := [(k_sa, .byte), (k_ru, .int)]) [0, 1] rfl
                          refine lv_if_ne (tgt := 175) hx hb d_M_reads_170 (by decide) (fun c_121 => ?_) (fun c_121 => ?_)
                          · rw [if_neg c_121] at hg_rd1
                            refine lv_iload_n hx hb d_M_reads_175 rfl (lv_at hl 1 rfl) ?_
                            refine lv_istore_n (lv' := [(1, .int (g_Mg_step (g_Mg_word v_sz x_90.2.1 f_sa))), (3, .int 1), (2, .int (g_Mg_step (g_Mg_word v_sz x_90.2.1 f_sa))), (0, .ref a_m)]) hx hb d_M_reads_176 rfl hl (by decide) rfl (fun ls hl => ?_)
                            refine lv_goto (tgt := 56) hx hb d_M_reads_177 (by decide) ?_
                            exact ih_rd1 _ _ _ _ _ _ _ ⟨hP, hD, hS, lv_sub hl [0, 3] rfl, ((hg_x_120 ▸ one_at hsz (hg_x_117 ▸ pass_at hsz (hg_x_90 ▸ space_at hsz ha)))), (step_le _), (li_mt hla c_96 (step_le _) hm_rd1), hg_rd1⟩
                          · rw [if_pos c_121] at hg_rd1
                            subst hg_rd1
                            dsimp only at hE
                            rw [if_neg (by decide)] at hE
                            rw [if_neg (by decide)] at hE
                            rw [if_neg (by decide)] at hE
                            refine lv_iconst (v := 0) hx hb d_M_reads_173 (by decide) ?_
                            have hP9 := hP.sub (ws' := [(a_m, .inr (5, [.int v_th, .ref a_sa, .int v_sz, .int x_120.2.1, .int x_120.2.2.1, .ref a_ru, .ref a_me, .ref a_le, .int v_n, .ref a_cl, .ref a_te, .ref a_ki, .ref a_ty, .ref a_bl, .ref a_ex, .ref a_lo, .int v_nl, .ref a_ho, .ref a_fi, .int v_nf, .ref a_cz, .int v_nc])), (a_sa, .inl (k_sa, 120, .inl f_sa)), (a_ru, .inl (k_ru, 410, .inl x_120.2.2.2))]) [0, 1, 2] rfl
                            have hD9 := hD.sub (ws' := [(a_m, .inr (5, [.int v_th, .ref a_sa, .int v_sz, .int x_120.2.1, .int x_120.2.2.1, .ref a_ru, .ref a_me, .ref a_le, .int v_n, .ref a_cl, .ref a_te, .ref a_ki, .ref a_ty, .ref a_bl, .ref a_ex, .ref a_lo, .int v_nl, .ref a_ho, .ref a_fi, .int v_nf, .ref a_cz, .int v_nc])), (a_sa, .inl (k_sa, 120, .inl f_sa)), (a_ru, .inl (k_ru, 410, .inl x_120.2.2.2))]) [0, 1, 2] (by decide) rfl
                            have hK9 := hK.sub (tys' := [(k_sa, .byte), (k_ru, .int)]) [0, 1] rfl
                            exact W.zret (v := 0) hx hb hr rfl (fun t ht hW => ⟨⟨0, (), rfl, by rw [← hz, hE], by rw [ht, ← hz, hE]; exact hP9, va_K.moved hW.alike hK9, by rw [← hz, hE]; exact hD9⟩, hS.F ht⟩) hS.2.2 d_M_reads_174
                        · exact absurd c_115 (by decide)
                  · rw [if_neg c_104] at hg_rd1
                    refine lv_iload_n hx hb d_M_reads_117 rfl (lv_at hl 1 rfl) ?_
                    refine lv_bipush (v := 6) hx hb d_M_reads_118 (by decide) ?_
                    refine lv_icmp_ne (tgt := 132) hx hb d_M_reads_120 (by decide) (fun c_122 => ?_) (fun c_122 => ?_)
                    · rw [if_neg c_122] at hg_rd1
                      refine lv_iload_n hx hb d_M_reads_132 rfl (lv_at hl 0 rfl) ?_
                      refine lv_bipush (v := 6) hx hb d_M_reads_133 (by decide) ?_
                      refine lv_icmp_le (tgt := 142) hx hb d_M_reads_135 (by decide) (fun c_123 => ?_) (fun c_123 => ?_)
                      · rw [if_pos c_123] at hg_rd1
                        refine lv_iconst (v := 0) hx hb d_M_reads_142 (by decide) ?_
                        refine lv_istore_n (lv' := [(3, .int 0), (2, .int (g_Mg_step (g_Mg_word v_sz x_90.2.1 f_sa))), (1, .int la), (0, .ref a_m)]) hx hb d_M_reads_143 rfl hl (by decide) rfl (fun ls hl => ?_)
                        refine lv_iload_n hx hb d_M_reads_144 rfl (lv_at hl 1 rfl) ?_
                        refine lv_if_eq (tgt := 152) hx hb d_M_reads_145 (by decide) (fun c_124 => ?_) (fun c_124 => ?_)
                        · subst hg_rd1
                          dsimp only at hE
                          rw [if_neg (by decide)] at hE
                          rw [if_neg (by decide)] at hE
                          rw [if_pos rfl] at hE
                          refine lv_aload_n hx hb d_M_reads_152 rfl (lv_at hl 3 rfl) ?_
                          refine lv_aload_n hx hb d_M_reads_153 rfl (lv_at hl 3 rfl) ?_
                          refine va_get (D := (dC, dI)) (ci := 5) (v := .int x_90.2.1) (C := "LoanRulesModel") (T := Fz_M) (N := 22) hx hb hts it_M hown hK hP 0 rfl rfl 3 (by decide) (hts _ tw_604) (fun _ h9 => h9) rfl d_M_reads_154 ?_
                          have hPc := hP.sub (ws' := [(a_m, .inr (5, [.int v_th, .ref a_sa, .int v_sz, .int x_90.2.1, .int x_90.2.2, .ref a_ru, .ref a_me, .ref a_le, .int v_n, .ref a_cl, .ref a_te, .ref a_ki, .ref a_ty, .ref a_bl, .ref a_ex, .ref a_lo, .int v_nl, .ref a_ho, .ref a_fi, .int v_nf, .ref a_cz, .int v_nc]))]) [0] rfl
                          have hKc := hK.sub (tys' := []) [] rfl
                          have hDc := hD.sub (ws' := [(a_m, .inr (5, [.int v_th, .ref a_sa, .int v_sz, .int x_90.2.1, .int x_90.2.2, .ref a_ru, .ref a_me, .ref a_le, .int v_n, .ref a_cl, .ref a_te, .ref a_ki, .ref a_ty, .ref a_bl, .ref a_ex, .ref a_lo, .int v_nl, .ref a_ho, .ref a_fi, .int v_nf, .ref a_cz, .int v_nc]))]) [0] (by decide) rfl
                          have hFc := va_free (wc := [(a_m, .inr (5, [.int v_th, .ref a_sa, .int v_sz, .int x_90.2.1, .int x_90.2.2, .ref a_ru, .ref a_me, .ref a_le, .int v_n, .ref a_cl, .ref a_te, .ref a_ki, .ref a_ty, .ref a_bl, .ref a_ex, .ref a_lo, .int v_nl, .ref a_ho, .ref a_fi, .int v_nf, .ref a_cz, .int v_nc]))]) hD hS hA [0] rfl
                          refine va_calli (va_runV (As := [.int x_90.2.1]) (rest := []) ⟨hx, hb, hml, hown, hts⟩ (c_Mg_bad l dC dI adK adV (a_m := a_m) (p0 := x_90.2.1) (v_th := v_th) (a_sa := a_sa) (v_sz := v_sz) (v_at := x_90.2.1) (v_wr := x_90.2.2) (a_ru := a_ru) (a_me := a_me) (a_le := a_le) (v_n := v_n) (a_cl := a_cl) (a_te := a_te) (a_ki := a_ki) (a_ty := a_ty) (a_bl := a_bl) (a_ex := a_ex) (a_lo := a_lo) (v_nl := v_nl) (a_ho := a_ho) (a_fi := a_fi) (v_nf := v_nf) (a_cz := a_cz) (v_nc := v_nc) (sz := H.size)) (cwV 1 hts (gV tw_688 tw_690 tw_28 tw_46 tw_691) rfl rfl rfl (by decide +kernel) ⟨(Nat.le_of_ble_eq_true rfl), (Nat.le_of_ble_eq_true rfl)⟩) ⟨fun a U g mk q => by obtain ⟨q0, q1, qZ, qP, qK, qD⟩ := q; exact ⟨q0, q1, zz_call qZ, qP, va_K.moved (u := U) (U := U.calling g mk a) (Vm.Alike.refl U.vm) qK, qD⟩, va_recv hKc hPc (ci := 5) (q0 := 0) rfl rfl, fun U hU hW => ⟨rfl, by rw [hU], zz_rw hS hFc hU hW hZ, by rw [hU]; exact hPc, va_K.moved hW.alike hKc, hDc.weaken (fun _ _ _ _ => trivial)⟩⟩ rfl rfl hl.1 rfl (lv_room (Nat.le_of_ble_eq_true rfl)) d_M_reads_157 ⟨(Nat.le_of_ble_eq_true rfl), (Nat.le_of_ble_eq_true rfl)⟩) hS (fun q _ h => hFc q h) hFc (fun r_125 u t H1 locs ht hvm hw_126 hB hz1 hk1 hS => ?_)
                          obtain ⟨hP1, hK1, hD1⟩ := hB
                          rw [ht] at hP1
                          have hK1 := va_K.moved hvm.symm hK1
                          obtain rfl : r_125 = 0 := hw_126
                          obtain ⟨hP, hD⟩ := va_join (wr := [(a_sa, .inl (k_sa, 120, .inl f_sa)), (a_ru, .inl (k_ru, 410, .inl R))]) (w1 := [(a_m, .inr (5, [.int v_th, .ref a_sa, .int v_sz, .int x_90.2.1, .int x_90.2.1, .ref a_ru, .ref a_me, .ref a_le, .int v_n, .ref a_cl, .ref a_te, .ref a_ki, .ref a_ty, .ref a_bl, .ref a_ex, .ref a_lo, .int v_nl, .ref a_ho, .ref a_fi, .int v_nf, .ref a_cz, .int v_nc]))]) hP hD [0] [1, 2] rfl rfl (by decide) (by decide) hk1 hFc hP1 hD1
                          replace hK := (hK.sub (tys' := [(k_sa, .byte), (k_ru, .int)]) [0, 1] rfl).app hK1
                          generalize H1 = H at hP hS ⊢
                          replace hP := hP.sub (ws' := [(a_m, .inr (5, [.int v_th, .ref a_sa, .int v_sz, .int x_90.2.1, .int x_90.2.1, .ref a_ru, .ref a_me, .ref a_le, .int v_n, .ref a_cl, .ref a_te, .ref a_ki, .ref a_ty, .ref a_bl, .ref a_ex, .ref a_lo, .int v_nl, .ref a_ho, .ref a_fi, .int v_nf, .ref a_cz, .int v_nc])), (a_sa, .inl (k_sa, 120, .inl f_sa)), (a_ru, .inl (k_ru, 410, .inl R))]) [2, 0, 1] rfl
                          replace hD := hD.sub (ws' := [(a_m, .inr (5, [.int v_th, .ref a_sa, .int v_sz, .int x_90.2.1, .int x_90.2.1, .ref a_ru, .ref a_me, .ref a_le, .int v_n, .ref a_cl, .ref a_te, .ref a_ki, .ref a_ty, .ref a_bl, .ref a_ex, .ref a_lo, .int v_nl, .ref a_ho, .ref a_fi, .int v_nf, .ref a_cz, .int v_nc])), (a_sa, .inl (k_sa, 120, .inl f_sa)), (a_ru, .inl (k_ru, 410, .inl R))]) [2, 0, 1] (by decide) rfl
                          replace hK := hK.sub (tys' := [(k_sa, .byte), (k_ru, .int)]) [0, 1] rfl
                          have hP9 := hP.sub (ws' := [(a_m, .inr (5, [.int v_th, .ref a_sa, .int v_sz, .int x_90.2.1, .int x_90.2.1, .ref a_ru, .ref a_me, .ref a_le, .int v_n, .ref a_cl, .ref a_te, .ref a_ki, .ref a_ty, .ref a_bl, .ref a_ex, .ref a_lo, .int v_nl, .ref a_ho, .ref a_fi, .int v_nf, .ref a_cz, .int v_nc])), (a_sa, .inl (k_sa, 120, .inl f_sa)), (a_ru, .inl (k_ru, 410, .inl R))]) [0, 1, 2] rfl
                          have hD9 := hD.sub (ws' := [(a_m, .inr (5, [.int v_th, .ref a_sa, .int v_sz, .int x_90.2.1, .int x_90.2.1, .ref a_ru, .ref a_me, .ref a_le, .int v_n, .ref a_cl, .ref a_te, .ref a_ki, .ref a_ty, .ref a_bl, .ref a_ex, .ref a_lo, .int v_nl, .ref a_ho, .ref a_fi, .int v_nf, .ref a_cz, .int v_nc])), (a_sa, .inl (k_sa, 120, .inl f_sa)), (a_ru, .inl (k_ru, 410, .inl R))]) [0, 1, 2] (by decide) rfl
                          have hK9 := hK.sub (tys' := [(k_sa, .byte), (k_ru, .int)]) [0, 1] rfl
                          exact W.zret (v := 0) hx hb hr rfl (fun t ht hW => ⟨⟨0, (), rfl, by rw [← hz, hE], by rw [ht, ← hz, hE]; exact hP9, va_K.moved hW.alike hK9, by rw [← hz, hE]; exact hD9⟩, hS.F ht⟩) hS.2.2 d_M_reads_160
                        · refine lv_iload_n hx hb d_M_reads_148 rfl (lv_at hl 0 rfl) ?_
                          refine lv_if_ne (tgt := 161) hx hb d_M_reads_149 (by decide) (fun c_127 => ?_) (fun c_127 => ?_)
                          · exact absurd (by decide) c_127
                          · subst hg_rd1
                            dsimp only at hE
                            rw [if_neg (by decide)] at hE
                            rw [if_neg (by decide)] at hE
                            rw [if_pos rfl] at hE
                            refine lv_aload_n hx hb d_M_reads_152 rfl (lv_at hl 3 rfl) ?_
                            refine lv_aload_n hx hb d_M_reads_153 rfl (lv_at hl 3 rfl) ?_
                            refine va_get (D := (dC, dI)) (ci := 5) (v := .int x_90.2.1) (C := "LoanRulesModel") (T := Fz_M) (N := 22) hx hb hts it_M hown hK hP 0 rfl rfl 3 (by decide) (hts _ tw_604) (fun _ h9 => h9) rfl d_M_reads_154 ?_
                            have hPc := hP.sub (ws' := [(a_m, .inr (5, [.int v_th, .ref a_sa, .int v_sz, .int x_90.2.1, .int x_90.2.2, .ref a_ru, .ref a_me, .ref a_le, .int v_n, .ref a_cl, .ref a_te, .ref a_ki, .ref a_ty, .ref a_bl, .ref a_ex, .ref a_lo, .int v_nl, .ref a_ho, .ref a_fi, .int v_nf, .ref a_cz, .int v_nc]))]) [0] rfl
                            have hKc := hK.sub (tys' := []) [] rfl
                            have hDc := hD.sub (ws' := [(a_m, .inr (5, [.int v_th, .ref a_sa, .int v_sz, .int x_90.2.1, .int x_90.2.2, .ref a_ru, .ref a_me, .ref a_le, .int v_n, .ref a_cl, .ref a_te, .ref a_ki, .ref a_ty, .ref a_bl, .ref a_ex, .ref a_lo, .int v_nl, .ref a_ho, .ref a_fi, .int v_nf, .ref a_cz, .int v_nc]))]) [0] (by decide) rfl
                            have hFc := va_free (wc := [(a_m, .inr (5, [.int v_th, .ref a_sa, .int v_sz, .int x_90.2.1, .int x_90.2.2, .ref a_ru, .ref a_me, .ref a_le, .int v_n, .ref a_cl, .ref a_te, .ref a_ki, .ref a_ty, .ref a_bl, .ref a_ex, .ref a_lo, .int v_nl, .ref a_ho, .ref a_fi, .int v_nf, .ref a_cz, .int v_nc]))]) hD hS hA [0] rfl
                            refine va_calli (va_runV (As := [.int x_90.2.1]) (rest := []) ⟨hx, hb, hml, hown, hts⟩ (c_Mg_bad l dC dI adK adV (a_m := a_m) (p0 := x_90.2.1) (v_th := v_th) (a_sa := a_sa) (v_sz := v_sz) (v_at := x_90.2.1) (v_wr := x_90.2.2) (a_ru := a_ru) (a_me := a_me) (a_le := a_le) (v_n := v_n) (a_cl := a_cl) (a_te := a_te) (a_ki := a_ki) (a_ty := a_ty) (a_bl := a_bl) (a_ex := a_ex) (a_lo := a_lo) (v_nl := v_nl) (a_ho := a_ho) (a_fi := a_fi) (v_nf := v_nf) (a_cz := a_cz) (v_nc := v_nc) (sz := H.size)) (cwV 1 hts (gV tw_688 tw_690 tw_28 tw_46 tw_691) rfl rfl rfl (by decide +kernel) ⟨(Nat.le_of_ble_eq_true rfl), (Nat.le_of_ble_eq_true rfl)⟩) ⟨fun a U g mk q => by obtain ⟨q0, q1, qZ, qP, qK, qD⟩ := q; exact ⟨q0, q1, zz_call qZ, qP, va_K.moved (u := U) (U := U.calling g mk a) (Vm.Alike.refl U.vm) qK, qD⟩, va_recv hKc hPc (ci := 5) (q0 := 0) rfl rfl, fun U hU hW => ⟨rfl, by rw [hU], zz_rw hS hFc hU hW hZ, by rw [hU]; exact hPc, va_K.moved hW.alike hKc, hDc.weaken (fun _ _ _ _ => trivial)⟩⟩ rfl rfl hl.1 rfl (lv_room (Nat.le_of_ble_eq_true rfl)) d_M_reads_157 ⟨(Nat.le_of_ble_eq_true rfl), (Nat.le_of_ble_eq_true rfl)⟩) hS (fun q _ h => hFc q h) hFc (fun r_128 u t H1 locs ht hvm hw_129 hB hz1 hk1 hS => ?_)
                            obtain ⟨hP1, hK1, hD1⟩ := hB
                            rw [ht] at hP1
                            have hK1 := va_K.moved hvm.symm hK1
                            obtain rfl : r_128 = 0 := hw_129
                            obtain ⟨hP, hD⟩ := va_join (wr := [(a_sa, .inl (k_sa, 120, .inl f_sa)), (a_ru, .inl (k_ru, 410, .inl R))]) (w1 := [(a_m, .inr (5, [.int v_th, .ref a_sa, .int v_sz, .int x_90.2.1, .int x_90.2.1, .ref a_ru, .ref a_me, .ref a_le, .int v_n, .ref a_cl, .ref a_te, .ref a_ki, .ref a_ty, .ref a_bl, .ref a_ex, .ref a_lo, .int v_nl, .ref a_ho, .ref a_fi, .int v_nf, .ref a_cz, .int v_nc]))]) hP hD [0] [1, 2] rfl rfl (by decide) (by decide) hk1 hFc hP1 hD1
                            replace hK := (hK.sub (tys' := [(k_sa, .byte), (k_ru, .int)]) [0, 1] rfl).app hK1
                            generalize H1 = H at hP hS ⊢
                            replace hP := hP.sub (ws' := [(a_m, .inr (5, [.int v_th, .ref a_sa, .int v_sz, .int x_90.2.1, .int x_90.2.1, .ref a_ru, .ref a_me, .ref a_le, .int v_n, .ref a_cl, .ref a_te, .ref a_ki, .ref a_ty, .ref a_bl, .ref a_ex, .ref a_lo, .int v_nl, .ref a_ho, .ref a_fi, .int v_nf, .ref a_cz, .int v_nc])), (a_sa, .inl (k_sa, 120, .inl f_sa)), (a_ru, .inl (k_ru, 410, .inl R))]) [2, 0, 1] rfl
                            replace hD := hD.sub (ws' := [(a_m, .inr (5, [.int v_th, .ref a_sa, .int v_sz, .int x_90.2.1, .int x_90.2.1, .ref a_ru, .ref a_me, .ref a_le, .int v_n, .ref a_cl, .ref a_te, .ref a_ki, .ref a_ty, .ref a_bl, .ref a_ex, .ref a_lo, .int v_nl, .ref a_ho, .ref a_fi, .int v_nf, .ref a_cz, .int v_nc])), (a_sa, .inl (k_sa, 120, .inl f_sa)), (a_ru, .inl (k_ru, 410, .inl R))]) [2, 0, 1] (by decide) rfl
                            replace hK := hK.sub (tys' := [(k_sa, .byte), (k_ru, .int)]) [0, 1] rfl
                            have hP9 := hP.sub (ws' := [(a_m, .inr (5, [.int v_th, .ref a_sa, .int v_sz, .int x_90.2.1, .int x_90.2.1, .ref a_ru, .ref a_me, .ref a_le, .int v_n, .ref a_cl, .ref a_te, .ref a_ki, .ref a_ty, .ref a_bl, .ref a_ex, .ref a_lo, .int v_nl, .ref a_ho, .ref a_fi, .int v_nf, .ref a_cz, .int v_nc])), (a_sa, .inl (k_sa, 120, .inl f_sa)), (a_ru, .inl (k_ru, 410, .inl R))]) [0, 1, 2] rfl
                            have hD9 := hD.sub (ws' := [(a_m, .inr (5, [.int v_th, .ref a_sa, .int v_sz, .int x_90.2.1, .int x_90.2.1, .ref a_ru, .ref a_me, .ref a_le, .int v_n, .ref a_cl, .ref a_te, .ref a_ki, .ref a_ty, .ref a_bl, .ref a_ex, .ref a_lo, .int v_nl, .ref a_ho, .ref a_fi, .int v_nf, .ref a_cz, .int v_nc])), (a_sa, .inl (k_sa, 120, .inl f_sa)), (a_ru, .inl (k_ru, 410, .inl R))]) [0, 1, 2] (by decide) rfl
                            have hK9 := hK.sub (tys' := [(k_sa, .byte), (k_ru, .int)]) [0, 1] rfl
                            exact W.zret (v := 0) hx hb hr rfl (fun t ht hW => ⟨⟨0, (), rfl, by rw [← hz, hE], by rw [ht, ← hz, hE]; exact hP9, va_K.moved hW.alike hK9, by rw [← hz, hE]; exact hD9⟩, hS.F ht⟩) hS.2.2 d_M_reads_160
                      · rw [if_neg c_123] at hg_rd1
                        refine lv_iconst (v := 1) hx hb d_M_reads_138 (by decide) ?_
                        refine lv_goto (tgt := 143) hx hb d_M_reads_139 (by decide) ?_
                        refine lv_istore_n (lv' := [(3, .int 1), (2, .int (g_Mg_step (g_Mg_word v_sz x_90.2.1 f_sa))), (1, .int la), (0, .ref a_m)]) hx hb d_M_reads_143 rfl hl (by decide) rfl (fun ls hl => ?_)
                        refine lv_iload_n hx hb d_M_reads_144 rfl (lv_at hl 1 rfl) ?_
                        refine lv_if_eq (tgt := 152) hx hb d_M_reads_145 (by decide) (fun c_130 => ?_) (fun c_130 => ?_)
                        · rw [if_pos c_130] at hg_rd1
                          subst hg_rd1
                          dsimp only at hE
                          rw [if_neg (by decide)] at hE
                          rw [if_neg (by decide)] at hE
                          rw [if_pos rfl] at hE
                          refine lv_aload_n hx hb d_M_reads_152 rfl (lv_at hl 3 rfl) ?_
                          refine lv_aload_n hx hb d_M_reads_153 rfl (lv_at hl 3 rfl) ?_
                          refine va_get (D := (dC, dI)) (ci := 5) (v := .int x_90.2.1) (C := "LoanRulesModel") (T := Fz_M) (N := 22) hx hb hts it_M hown hK hP 0 rfl rfl 3 (by decide) (hts _ tw_604) (fun _ h9 => h9) rfl d_M_reads_154 ?_
                          have hPc := hP.sub (ws' := [(a_m, .inr (5, [.int v_th, .ref a_sa, .int v_sz, .int x_90.2.1, .int x_90.2.2, .ref a_ru, .ref a_me, .ref a_le, .int v_n, .ref a_cl, .ref a_te, .ref a_ki, .ref a_ty, .ref a_bl, .ref a_ex, .ref a_lo, .int v_nl, .ref a_ho, .ref a_fi, .int v_nf, .ref a_cz, .int v_nc]))]) [0] rfl
                          have hKc := hK.sub (tys' := []) [] rfl
                          have hDc := hD.sub (ws' := [(a_m, .inr (5, [.int v_th, .ref a_sa, .int v_sz, .int x_90.2.1, .int x_90.2.2, .ref a_ru, .ref a_me, .ref a_le, .int v_n, .ref a_cl, .ref a_te, .ref a_ki, .ref a_ty, .ref a_bl, .ref a_ex, .ref a_lo, .int v_nl, .ref a_ho, .ref a_fi, .int v_nf, .ref a_cz, .int v_nc]))]) [0] (by decide) rfl
                          have hFc := va_free (wc := [(a_m, .inr (5, [.int v_th, .ref a_sa, .int v_sz, .int x_90.2.1, .int x_90.2.2, .ref a_ru, .ref a_me, .ref a_le, .int v_n, .ref a_cl, .ref a_te, .ref a_ki, .ref a_ty, .ref a_bl, .ref a_ex, .ref a_lo, .int v_nl, .ref a_ho, .ref a_fi, .int v_nf, .ref a_cz, .int v_nc]))]) hD hS hA [0] rfl
                          refine va_calli (va_runV (As := [.int x_90.2.1]) (rest := []) ⟨hx, hb, hml, hown, hts⟩ (c_Mg_bad l dC dI adK adV (a_m := a_m) (p0 := x_90.2.1) (v_th := v_th) (a_sa := a_sa) (v_sz := v_sz) (v_at := x_90.2.1) (v_wr := x_90.2.2) (a_ru := a_ru) (a_me := a_me) (a_le := a_le) (v_n := v_n) (a_cl := a_cl) (a_te := a_te) (a_ki := a_ki) (a_ty := a_ty) (a_bl := a_bl) (a_ex := a_ex) (a_lo := a_lo) (v_nl := v_nl) (a_ho := a_ho) (a_fi := a_fi) (v_nf := v_nf) (a_cz := a_cz) (v_nc := v_nc) (sz := H.size)) (cwV 1 hts (gV tw_688 tw_690 tw_28 tw_46 tw_691) rfl rfl rfl (by decide +kernel) ⟨(Nat.le_of_ble_eq_true rfl), (Nat.le_of_ble_eq_true rfl)⟩) ⟨fun a U g mk q => by obtain ⟨q0, q1, qZ, qP, qK, qD⟩ := q; exact ⟨q0, q1, zz_call qZ, qP, va_K.moved (u := U) (U := U.calling g mk a) (Vm.Alike.refl U.vm) qK, qD⟩, va_recv hKc hPc (ci := 5) (q0 := 0) rfl rfl, fun U hU hW => ⟨rfl, by rw [hU], zz_rw hS hFc hU hW hZ, by rw [hU]; exact hPc, va_K.moved hW.alike hKc, hDc.weaken (fun _ _ _ _ => trivial)⟩⟩ rfl rfl hl.1 rfl (lv_room (Nat.le_of_ble_eq_true rfl)) d_M_reads_157 ⟨(Nat.le_of_ble_eq_true rfl), (Nat.le_of_ble_eq_true rfl)⟩) hS (fun q _ h => hFc q h) hFc (fun r_131 u t H1 locs ht hvm hw_132 hB hz1 hk1 hS => ?_)
                          obtain ⟨hP1, hK1, hD1⟩ := hB
                          rw [ht] at hP1
                          have hK1 := va_K.moved hvm.symm hK1
                          obtain rfl : r_131 = 0 := hw_132
                          obtain ⟨hP, hD⟩ := va_join (wr := [(a_sa, .inl (k_sa, 120, .inl f_sa)), (a_ru, .inl (k_ru, 410, .inl R))]) (w1 := [(a_m, .inr (5, [.int v_th, .ref a_sa, .int v_sz, .int x_90.2.1, .int x_90.2.1, .ref a_ru, .ref a_me, .ref a_le, .int v_n, .ref a_cl, .ref a_te, .ref a_ki, .ref a_ty, .ref a_bl, .ref a_ex, .ref a_lo, .int v_nl, .ref a_ho, .ref a_fi, .int v_nf, .ref a_cz, .int v_nc]))]) hP hD [0] [1, 2] rfl rfl (by decide) (by decide) hk1 hFc hP1 hD1
                          replace hK := (hK.sub (tys' := [(k_sa, .byte), (k_ru, .int)]) [0, 1] rfl).app hK1
                          generalize H1 = H at hP hS ⊢
                          replace hP := hP.sub (ws' := [(a_m, .inr (5, [.int v_th, .ref a_sa, .int v_sz, .int x_90.2.1, .int x_90.2.1, .ref a_ru, .ref a_me, .ref a_le, .int v_n, .ref a_cl, .ref a_te, .ref a_ki, .ref a_ty, .ref a_bl, .ref a_ex, .ref a_lo, .int v_nl, .ref a_ho, .ref a_fi, .int v_nf, .ref a_cz, .int v_nc])), (a_sa, .inl (k_sa, 120, .inl f_sa)), (a_ru, .inl (k_ru, 410, .inl R))]) [2, 0, 1] rfl
                          replace hD := hD.sub (ws' := [(a_m, .inr (5, [.int v_th, .ref a_sa, .int v_sz, .int x_90.2.1, .int x_90.2.1, .ref a_ru, .ref a_me, .ref a_le, .int v_n, .ref a_cl, .ref a_te, .ref a_ki, .ref a_ty, .ref a_bl, .ref a_ex, .ref a_lo, .int v_nl, .ref a_ho, .ref a_fi, .int v_nf, .ref a_cz, .int v_nc])), (a_sa, .inl (k_sa, 120, .inl f_sa)), (a_ru, .inl (k_ru, 410, .inl R))]) [2, 0, 1] (by decide) rfl
                          replace hK := hK.sub (tys' := [(k_sa, .byte), (k_ru, .int)]) [0, 1] rfl
                          have hP9 := hP.sub (ws' := [(a_m, .inr (5, [.int v_th, .ref a_sa, .int v_sz, .int x_90.2.1, .int x_90.2.1, .ref a_ru, .ref a_me, .ref a_le, .int v_n, .ref a_cl, .ref a_te, .ref a_ki, .ref a_ty, .ref a_bl, .ref a_ex, .ref a_lo, .int v_nl, .ref a_ho, .ref a_fi, .int v_nf, .ref a_cz, .int v_nc])), (a_sa, .inl (k_sa, 120, .inl f_sa)), (a_ru, .inl (k_ru, 410, .inl R))]) [0, 1, 2] rfl
                          have hD9 := hD.sub (ws' := [(a_m, .inr (5, [.int v_th, .ref a_sa, .int v_sz, .int x_90.2.1, .int x_90.2.1, .ref a_ru, .ref a_me, .ref a_le, .int v_n, .ref a_cl, .ref a_te, .ref a_ki, .ref a_ty, .ref a_bl, .ref a_ex, .ref a_lo, .int v_nl, .ref a_ho, .ref a_fi, .int v_nf, .ref a_cz, .int v_nc])), (a_sa, .inl (k_sa, 120, .inl f_sa)), (a_ru, .inl (k_ru, 410, .inl R))]) [0, 1, 2] (by decide) rfl
                          have hK9 := hK.sub (tys' := [(k_sa, .byte), (k_ru, .int)]) [0, 1] rfl
                          exact W.zret (v := 0) hx hb hr rfl (fun t ht hW => ⟨⟨0, (), rfl, by rw [← hz, hE], by rw [ht, ← hz, hE]; exact hP9, va_K.moved hW.alike hK9, by rw [← hz, hE]; exact hD9⟩, hS.F ht⟩) hS.2.2 d_M_reads_160
                        · rw [if_neg c_130] at hg_rd1
                          refine lv_iload_n hx hb d_M_reads_148 rfl (lv_at hl 0 rfl) ?_
                          refine lv_if_ne (tgt := 161) hx hb d_M_reads_149 (by decide) (fun c_133 => ?_) (fun c_133 => ?_)
                          · refine lv_aload_n hx hb d_M_reads_161 rfl (lv_at hl 3 rfl) ?_
                            have hPc := hP.sub (ws' := [(a_m, .inr (5, [.int v_th, .ref a_sa, .int v_sz, .int x_90.2.1, .int x_90.2.2, .ref a_ru, .ref a_me, .ref a_le, .int v_n, .ref a_cl, .ref a_te, .ref a_ki, .ref a_ty, .ref a_bl, .ref a_ex, .ref a_lo, .int v_nl, .ref a_ho, .ref a_fi, .int v_nf, .ref a_cz, .int v_nc])), (a_sa, .inl (k_sa, 120, .inl f_sa))]) [0, 1] rfl
                            have hKc := hK.sub (tys' := [(k_sa, .byte)]) [0] rfl
                            have hDc := hD.sub (ws' := [(a_m, .inr (5, [.int v_th, .ref a_sa, .int v_sz, .int x_90.2.1, .int x_90.2.2, .ref a_ru, .ref a_me, .ref a_le, .int v_n, .ref a_cl, .ref a_te, .ref a_ki, .ref a_ty, .ref a_bl, .ref a_ex, .ref a_lo, .int v_nl, .ref a_ho, .ref a_fi, .int v_nf, .ref a_cz, .int v_nc])), (a_sa, .inl (k_sa, 120, .inl f_sa))]) [0, 1] (by decide) rfl
                            have hFc := va_free (wc := [(a_m, .inr (5, [.int v_th, .ref a_sa, .int v_sz, .int x_90.2.1, .int x_90.2.2, .ref a_ru, .ref a_me, .ref a_le, .int v_n, .ref a_cl, .ref a_te, .ref a_ki, .ref a_ty, .ref a_bl, .ref a_ex, .ref a_lo, .int v_nl, .ref a_ho, .ref a_fi, .int v_nf, .ref a_cz, .int v_nc])), (a_sa, .inl (k_sa, 120, .inl f_sa))]) hD hS hA [0, 1] rfl
                            refine va_callv (va_runV (As := []) (rest := []) ⟨hx, hb, hml, hown, hts⟩ (c_Mg_pass l dC dI adK adV (a_m := a_m) (v_th := v_th) (a_sa := a_sa) (v_sz := v_sz) (v_at := x_90.2.1) (v_wr := x_90.2.2) (a_ru := a_ru) (a_me := a_me) (a_le := a_le) (v_n := v_n) (a_cl := a_cl) (a_te := a_te) (a_ki := a_ki) (a_ty := a_ty) (a_bl := a_bl) (a_ex := a_ex) (a_lo := a_lo) (v_nl := v_nl) (a_ho := a_ho) (a_fi := a_fi) (v_nf := v_nf) (a_cz := a_cz) (v_nc := v_nc) (k_sa := k_sa) (f_sa := f_sa) (sz := H.size) hsz (hg_x_90 ▸ space_at hsz ha)) (cwV 0 hts (gV tw_712 tw_714 tw_30 tw_46 tw_715) rfl rfl rfl (by decide +kernel) ⟨(Nat.le_of_ble_eq_true rfl), (Nat.le_of_ble_eq_true rfl)⟩) ⟨fun a U g mk q => by obtain ⟨q0, q1, qZ, qP, qK, qD⟩ := q; exact ⟨q0, q1, zz_call qZ, qP, va_K.moved (u := U) (U := U.calling g mk a) (Vm.Alike.refl U.vm) qK, qD⟩, va_recv hKc hPc (ci := 5) (q0 := 0) rfl rfl, fun U hU hW => ⟨rfl, by rw [hU], zz_rw hS hFc hU hW hZ, by rw [hU]; exact hPc, va_K.moved hW.alike hKc, hDc.weaken (fun _ _ _ _ => trivial)⟩⟩ rfl rfl hl.1 rfl (lv_room (Nat.le_of_ble_eq_true rfl)) d_M_reads_162 ⟨(Nat.le_of_ble_eq_true rfl), (Nat.le_of_ble_eq_true rfl)⟩) hS (fun q _ h => hFc q h) hFc (fun u t H1 locs ht hvm hw_134 hB hz1 hk1 hS => ?_)
                            generalize hg_x_135 : g_Mg_pass v_sz x_90.2.1 f_sa = x_135 at hw_134 hB hg_rd1
                            rw [bv_eq] at hg_rd1
                            obtain ⟨hP1, hK1, hD1⟩ := hB
                            rw [ht] at hP1
                            have hK1 := va_K.moved hvm.symm hK1
                            obtain ⟨hP, hD⟩ := va_join (wr := [(a_ru, .inl (k_ru, 410, .inl R))]) (w1 := [(a_m, .inr (5, [.int v_th, .ref a_sa, .int v_sz, .int x_135, .int x_90.2.2, .ref a_ru, .ref a_me, .ref a_le, .int v_n, .ref a_cl, .ref a_te, .ref a_ki, .ref a_ty, .ref a_bl, .ref a_ex, .ref a_lo, .int v_nl, .ref a_ho, .ref a_fi, .int v_nf, .ref a_cz, .int v_nc])), (a_sa, .inl (k_sa, 120, .inl f_sa))]) hP hD [0, 1] [2] rfl rfl (by decide) (by decide) hk1 hFc hP1 hD1
                            replace hK := (hK.sub (tys' := [(k_ru, .int)]) [1] rfl).app hK1
                            generalize H1 = H at hP hS ⊢
                            replace hP := hP.sub (ws' := [(a_m, .inr (5, [.int v_th, .ref a_sa, .int v_sz, .int x_135, .int x_90.2.2, .ref a_ru, .ref a_me, .ref a_le, .int v_n, .ref a_cl, .ref a_te, .ref a_ki, .ref a_ty, .ref a_bl, .ref a_ex, .ref a_lo, .int v_nl, .ref a_ho, .ref a_fi, .int v_nf, .ref a_cz, .int v_nc])), (a_sa, .inl (k_sa, 120, .inl f_sa)), (a_ru, .inl (k_ru, 410, .inl R))]) [1, 2, 0] rfl
                            replace hD := hD.sub (ws' := [(a_m, .inr (5, [.int v_th, .ref a_sa, .int v_sz, .int x_135, .int x_90.2.2, .ref a_ru, .ref a_me, .ref a_le, .int v_n, .ref a_cl, .ref a_te, .ref a_ki, .ref a_ty, .ref a_bl, .ref a_ex, .ref a_lo, .int v_nl, .ref a_ho, .ref a_fi, .int v_nf, .ref a_cz, .int v_nc])), (a_sa, .inl (k_sa, 120, .inl f_sa)), (a_ru, .inl (k_ru, 410, .inl R))]) [1, 2, 0] (by decide) rfl
                            replace hK := hK.sub (tys' := [(k_sa, .byte), (k_ru, .int)]) [1, 0] rfl
                            refine lv_aload_n hx hb d_M_reads_165 rfl (lv_at hl 3 rfl) ?_
                            refine lv_iload_n hx hb d_M_reads_166 rfl (lv_at hl 1 rfl) ?_
                            have hPc := hP.sub (ws' := [(a_m, .inr (5, [.int v_th, .ref a_sa, .int v_sz, .int x_135, .int x_90.2.2, .ref a_ru, .ref a_me, .ref a_le, .int v_n, .ref a_cl, .ref a_te, .ref a_ki, .ref a_ty, .ref a_bl, .ref a_ex, .ref a_lo, .int v_nl, .ref a_ho, .ref a_fi, .int v_nf, .ref a_cz, .int v_nc])), (a_sa, .inl (k_sa, 120, .inl f_sa)), (a_ru, .inl (k_ru, 410, .inl R))]) [0, 1, 2] rfl
                            have hKc := hK.sub (tys' := [(k_sa, .byte), (k_ru, .int)]) [0, 1] rfl
                            have hDc := hD.sub (ws' := [(a_m, .inr (5, [.int v_th, .ref a_sa, .int v_sz, .int x_135, .int x_90.2.2, .ref a_ru, .ref a_me, .ref a_le, .int v_n, .ref a_cl, .ref a_te, .ref a_ki, .ref a_ty, .ref a_bl, .ref a_ex, .ref a_lo, .int v_nl, .ref a_ho, .ref a_fi, .int v_nf, .ref a_cz, .int v_nc])), (a_sa, .inl (k_sa, 120, .inl f_sa)), (a_ru, .inl (k_ru, 410, .inl R))]) [0, 1, 2] (by decide) rfl
                            have hFc := va_free (wc := [(a_m, .inr (5, [.int v_th, .ref a_sa, .int v_sz, .int x_135, .int x_90.2.2, .ref a_ru, .ref a_me, .ref a_le, .int v_n, .ref a_cl, .ref a_te, .ref a_ki, .ref a_ty, .ref a_bl, .ref a_ex, .ref a_lo, .int v_nl, .ref a_ho, .ref a_fi, .int v_nf, .ref a_cz, .int v_nc])), (a_sa, .inl (k_sa, 120, .inl f_sa)), (a_ru, .inl (k_ru, 410, .inl R))]) hD hS hA [0, 1, 2] rfl
                            refine va_calli (va_runV (As := [.int (g_Mg_step (g_Mg_word v_sz x_90.2.1 f_sa))]) (rest := []) ⟨hx, hb, hml, hown, hts⟩ (c_Mg_one l dC dI adK adV (a_m := a_m) (p0 := g_Mg_step (g_Mg_word v_sz x_90.2.1 f_sa)) (v_th := v_th) (a_sa := a_sa) (v_sz := v_sz) (v_at := x_135) (v_wr := x_90.2.2) (a_ru := a_ru) (a_me := a_me) (a_le := a_le) (v_n := v_n) (a_cl := a_cl) (a_te := a_te) (a_ki := a_ki) (a_ty := a_ty) (a_bl := a_bl) (a_ex := a_ex) (a_lo := a_lo) (v_nl := v_nl) (a_ho := a_ho) (a_fi := a_fi) (v_nf := v_nf) (a_cz := a_cz) (v_nc := v_nc) (k_sa := k_sa) (f_sa := f_sa) (k_ru := k_ru) (f_ru := R) (sz := H.size) hsz (hg_x_135 ▸ pass_at hsz (hg_x_90 ▸ space_at hsz ha)) hn) (cwV 1 hts (gV tw_716 tw_718 tw_31 tw_46 tw_719) rfl rfl rfl (by decide +kernel) ⟨(Nat.le_of_ble_eq_true rfl), (Nat.le_of_ble_eq_true rfl)⟩) ⟨fun a U g mk q => by obtain ⟨q0, q1, qZ, qP, qK, qD⟩ := q; exact ⟨q0, q1, zz_call qZ, qP, va_K.moved (u := U) (U := U.calling g mk a) (Vm.Alike.refl U.vm) qK, qD⟩, va_recv hKc hPc (ci := 5) (q0 := 0) rfl rfl, fun U hU hW => ⟨rfl, by rw [hU], zz_rw hS hFc hU hW hZ, by rw [hU]; exact hPc, va_K.moved hW.alike hKc, hDc.weaken (fun _ _ _ _ => trivial)⟩⟩ rfl rfl hl.1 rfl (lv_room (Nat.le_of_ble_eq_true rfl)) d_M_reads_167 ⟨(Nat.le_of_ble_eq_true rfl), (Nat.le_of_ble_eq_true rfl)⟩) hS (fun q _ h => hFc q h) hFc (fun r_136 u t H1 locs ht hvm hw_137 hB hz1 hk1 hS => ?_)
                            generalize hg_x_138 : g_Mg_one (g_Mg_step (g_Mg_word v_sz x_90.2.1 f_sa)) v_sz x_135 x_90.2.2 v_n f_sa R = x_138 at hw_137 hB hg_rd1
                            rw [bv_eq] at hg_rd1
                            obtain ⟨hP1, hK1, hD1⟩ := hB
                            rw [ht] at hP1
                            have hK1 := va_K.moved hvm.symm hK1
                            obtain rfl : r_136 = x_138.1 := hw_137
                            obtain ⟨hP, hD⟩ := va_join (wr := []) (w1 := [(a_m, .inr (5, [.int v_th, .ref a_sa, .int v_sz, .int x_138.2.1, .int x_138.2.2.1, .ref a_ru, .ref a_me, .ref a_le, .int v_n, .ref a_cl, .ref a_te, .ref a_ki, .ref a_ty, .ref a_bl, .ref a_ex, .ref a_lo, .int v_nl, .ref a_ho, .ref a_fi, .int v_nf, .ref a_cz, .int v_nc])), (a_sa, .inl (k_sa, 120, .inl f_sa)), (a_ru, .inl (k_ru, 410, .inl x_138.2.2.2))]) hP hD [0, 1, 2] [] rfl rfl (by decide) (by decide) hk1 hFc hP1 hD1
                            replace hK := (hK.sub (tys' := []) [] rfl).app hK1
                            generalize H1 = H at hP hS ⊢
                            replace hP := hP.sub (ws' := [(a_m, .inr (5, [.int v_th, .ref a_sa, .int v_sz, .int x_138.2.1, .int x_138.2.2.1, .ref a_ru, .ref a_me, .ref a_le, .int v_n, .ref a_cl, .ref a_te, .ref a_ki, .ref a_ty, .ref a_bl, .ref a_ex, .ref a_lo, .int v_nl, .ref a_ho, .ref a_fi, .int v_nf, .ref a_cz, .int v_nc])), (a_sa, .inl (k_sa, 120, .inl f_sa)), (a_ru, .inl (k_ru, 410, .inl x_138.2.2.2))]) [0, 1, 2] rfl
                            replace hD := hD.sub (ws' := [(a_m, .inr (5, [.int v_th, .ref a_sa, .int v_sz, .int x_138.2.1, .int x_138.2.2.1, .ref a_ru, .ref a_me, .ref a_le, .int v_n, .ref a_cl, .ref a_te, .ref a_ki, .ref a_ty, .ref a_bl, .ref a_ex, .ref a_lo, .int v_nl, .ref a_ho, .ref a_fi, .int v_nf, .ref a_cz, .int v_nc])), (a_sa, .inl (k_sa, 120, .inl f_sa)), (a_ru, .inl (k_ru, 410, .inl x_138.2.2.2))]) [0, 1, 2] (by decide) rfl
                            replace hK := hK.sub (tys' := [(k_sa, .byte), (k_ru, .int)]) [0, 1] rfl
                            refine lv_if_ne (tgt := 175) hx hb d_M_reads_170 (by decide) (fun c_139 => ?_) (fun c_139 => ?_)
                            · rw [if_neg c_139] at hg_rd1
                              refine lv_iload_n hx hb d_M_reads_175 rfl (lv_at hl 1 rfl) ?_
                              refine lv_istore_n (lv' := [(1, .int (g_Mg_step (g_Mg_word v_sz x_90.2.1 f_sa))), (3, .int 1), (2, .int (g_Mg_step (g_Mg_word v_sz x_90.2.1 f_sa))), (0, .ref a_m)]) hx hb d_M_reads_176 rfl hl (by decide) rfl (fun ls hl => ?_)
                              refine lv_goto (tgt := 56) hx hb d_M_reads_177 (by decide) ?_
                              exact ih_rd1 _ _ _ _ _ _ _ ⟨hP, hD, hS, lv_sub hl [0, 3] rfl, ((hg_x_138 ▸ one_at hsz (hg_x_135 ▸ pass_at hsz (hg_x_90 ▸ space_at hsz ha)))), (step_le _), (li_mt hla c_96 (step_le _) hm_rd1), hg_rd1⟩
                            · rw [if_pos c_139] at hg_rd1
                              subst hg_rd1
                              dsimp only at hE
                              rw [if_neg (by decide)] at hE
                              rw [if_neg (by decide)] at hE
                              rw [if_neg (by decide)] at hE
                              refine lv_iconst (v := 0) hx hb d_M_reads_173 (by decide) ?_
                              have hP9 := hP.sub (ws' := [(a_m, .inr (5, [.int v_th, .ref a_sa, .int v_sz, .int x_138.2.1, .int x_138.2.2.1, .ref a_ru, .ref a_me, .ref a_le, .int v_n, .ref a_cl, .ref a_te, .ref a_ki, .ref a_ty, .ref a_bl, .ref a_ex, .ref a_lo, .int v_nl, .ref a_ho, .ref a_fi, .int v_nf, .ref a_cz, .int v_nc])), (a_sa, .inl (k_sa, 120, .inl f_sa)), (a_ru, .inl (k_ru, 410, .inl x_138.2.2.2))]) [0, 1, 2] rfl
                              have hD9 := hD.sub (ws' := [(a_m, .inr (5, [.int v_th, .ref a_sa, .int v_sz, .int x_138.2.1, .int x_138.2.2.1, .ref a_ru, .ref a_me, .ref a_le, .int v_n, .ref a_cl, .ref a_te, .ref a_ki, .ref a_ty, .ref a_bl, .ref a_ex, .ref a_lo, .int v_nl, .ref a_ho, .ref a_fi, .int v_nf, .ref a_cz, .int v_nc])), (a_sa, .inl (k_sa, 120, .inl f_sa)), (a_ru, .inl (k_ru, 410, .inl x_138.2.2.2))]) [0, 1, 2] (by decide) rfl
                              have hK9 := hK.sub (tys' := [(k_sa, .byte), (k_ru, .int)]) [0, 1] rfl
                              exact W.zret (v := 0) hx hb hr rfl (fun t ht hW => ⟨⟨0, (), rfl, by rw [← hz, hE], by rw [ht, ← hz, hE]; exact hP9, va_K.moved hW.alike hK9, by rw [← hz, hE]; exact hD9⟩, hS.F ht⟩) hS.2.2 d_M_reads_174
                          · exact absurd c_133 (by decide)
                    · rw [if_pos c_122] at hg_rd1
                      refine lv_iload_n hx hb d_M_reads_123 rfl (lv_at hl 0 rfl) ?_
                      refine lv_bipush (v := 10) hx hb d_M_reads_124 (by decide) ?_
                      refine lv_icmp_ne (tgt := 142) hx hb d_M_reads_126 (by decide) (fun c_140 => ?_) (fun c_140 => ?_)
                      · rw [if_neg c_140] at hg_rd1
                        refine lv_iconst (v := 0) hx hb d_M_reads_142 (by decide) ?_
                        refine lv_istore_n (lv' := [(3, .int 0), (2, .int (g_Mg_step (g_Mg_word v_sz x_90.2.1 f_sa))), (1, .int la), (0, .ref a_m)]) hx hb d_M_reads_143 rfl hl (by decide) rfl (fun ls hl => ?_)
                        refine lv_iload_n hx hb d_M_reads_144 rfl (lv_at hl 1 rfl) ?_
                        refine lv_if_eq (tgt := 152) hx hb d_M_reads_145 (by decide) (fun c_141 => ?_) (fun c_141 => ?_)
                        · subst hg_rd1
                          dsimp only at hE
                          rw [if_neg (by decide)] at hE
                          rw [if_neg (by decide)] at hE
                          rw [if_pos rfl] at hE
                          refine lv_aload_n hx hb d_M_reads_152 rfl (lv_at hl 3 rfl) ?_
                          refine lv_aload_n hx hb d_M_reads_153 rfl (lv_at hl 3 rfl) ?_
                          refine va_get (D := (dC, dI)) (ci := 5) (v := .int x_90.2.1) (C := "LoanRulesModel") (T := Fz_M) (N := 22) hx hb hts it_M hown hK hP 0 rfl rfl 3 (by decide) (hts _ tw_604) (fun _ h9 => h9) rfl d_M_reads_154 ?_
                          have hPc := hP.sub (ws' := [(a_m, .inr (5, [.int v_th, .ref a_sa, .int v_sz, .int x_90.2.1, .int x_90.2.2, .ref a_ru, .ref a_me, .ref a_le, .int v_n, .ref a_cl, .ref a_te, .ref a_ki, .ref a_ty, .ref a_bl, .ref a_ex, .ref a_lo, .int v_nl, .ref a_ho, .ref a_fi, .int v_nf, .ref a_cz, .int v_nc]))]) [0] rfl
                          have hKc := hK.sub (tys' := []) [] rfl
                          have hDc := hD.sub (ws' := [(a_m, .inr (5, [.int v_th, .ref a_sa, .int v_sz, .int x_90.2.1, .int x_90.2.2, .ref a_ru, .ref a_me, .ref a_le, .int v_n, .ref a_cl, .ref a_te, .ref a_ki, .ref a_ty, .ref a_bl, .ref a_ex, .ref a_lo, .int v_nl, .ref a_ho, .ref a_fi, .int v_nf, .ref a_cz, .int v_nc]))]) [0] (by decide) rfl
                          have hFc := va_free (wc := [(a_m, .inr (5, [.int v_th, .ref a_sa, .int v_sz, .int x_90.2.1, .int x_90.2.2, .ref a_ru, .ref a_me, .ref a_le, .int v_n, .ref a_cl, .ref a_te, .ref a_ki, .ref a_ty, .ref a_bl, .ref a_ex, .ref a_lo, .int v_nl, .ref a_ho, .ref a_fi, .int v_nf, .ref a_cz, .int v_nc]))]) hD hS hA [0] rfl
                          refine va_calli (va_runV (As := [.int x_90.2.1]) (rest := []) ⟨hx, hb, hml, hown, hts⟩ (c_Mg_bad l dC dI adK adV (a_m := a_m) (p0 := x_90.2.1) (v_th := v_th) (a_sa := a_sa) (v_sz := v_sz) (v_at := x_90.2.1) (v_wr := x_90.2.2) (a_ru := a_ru) (a_me := a_me) (a_le := a_le) (v_n := v_n) (a_cl := a_cl) (a_te := a_te) (a_ki := a_ki) (a_ty := a_ty) (a_bl := a_bl) (a_ex := a_ex) (a_lo := a_lo) (v_nl := v_nl) (a_ho := a_ho) (a_fi := a_fi) (v_nf := v_nf) (a_cz := a_cz) (v_nc := v_nc) (sz := H.size)) (cwV 1 hts (gV tw_688 tw_690 tw_28 tw_46 tw_691) rfl rfl rfl (by decide +kernel) ⟨(Nat.le_of_ble_eq_true rfl), (Nat.le_of_ble_eq_true rfl)⟩) ⟨fun a U g mk q => by obtain ⟨q0, q1, qZ, qP, qK, qD⟩ := q; exact ⟨q0, q1, zz_call qZ, qP, va_K.moved (u := U) (U := U.calling g mk a) (Vm.Alike.refl U.vm) qK, qD⟩, va_recv hKc hPc (ci := 5) (q0 := 0) rfl rfl, fun U hU hW => ⟨rfl, by rw [hU], zz_rw hS hFc hU hW hZ, by rw [hU]; exact hPc, va_K.moved hW.alike hKc, hDc.weaken (fun _ _ _ _ => trivial)⟩⟩ rfl rfl hl.1 rfl (lv_room (Nat.le_of_ble_eq_true rfl)) d_M_reads_157 ⟨(Nat.le_of_ble_eq_true rfl), (Nat.le_of_ble_eq_true rfl)⟩) hS (fun q _ h => hFc q h) hFc (fun r_142 u t H1 locs ht hvm hw_143 hB hz1 hk1 hS => ?_)
                          obtain ⟨hP1, hK1, hD1⟩ := hB
                          rw [ht] at hP1
                          have hK1 := va_K.moved hvm.symm hK1
                          obtain rfl : r_142 = 0 := hw_143
                          obtain ⟨hP, hD⟩ := va_join (wr := [(a_sa, .inl (k_sa, 120, .inl f_sa)), (a_ru, .inl (k_ru, 410, .inl R))]) (w1 := [(a_m, .inr (5, [.int v_th, .ref a_sa, .int v_sz, .int x_90.2.1, .int x_90.2.1, .ref a_ru, .ref a_me, .ref a_le, .int v_n, .ref a_cl, .ref a_te, .ref a_ki, .ref a_ty, .ref a_bl, .ref a_ex, .ref a_lo, .int v_nl, .ref a_ho, .ref a_fi, .int v_nf, .ref a_cz, .int v_nc]))]) hP hD [0] [1, 2] rfl rfl (by decide) (by decide) hk1 hFc hP1 hD1
                          replace hK := (hK.sub (tys' := [(k_sa, .byte), (k_ru, .int)]) [0, 1] rfl).app hK1
                          generalize H1 = H at hP hS ⊢
                          replace hP := hP.sub (ws' := [(a_m, .inr (5, [.int v_th, .ref a_sa, .int v_sz, .int x_90.2.1, .int x_90.2.1, .ref a_ru, .ref a_me, .ref a_le, .int v_n, .ref a_cl, .ref a_te, .ref a_ki, .ref a_ty, .ref a_bl, .ref a_ex, .ref a_lo, .int v_nl, .ref a_ho, .ref a_fi, .int v_nf, .ref a_cz, .int v_nc])), (a_sa, .inl (k_sa, 120, .inl f_sa)), (a_ru, .inl (k_ru, 410, .inl R))]) [2, 0, 1] rfl
                          replace hD := hD.sub (ws' := [(a_m, .inr (5, [.int v_th, .ref a_sa, .int v_sz, .int x_90.2.1, .int x_90.2.1, .ref a_ru, .ref a_me, .ref a_le, .int v_n, .ref a_cl, .ref a_te, .ref a_ki, .ref a_ty, .ref a_bl, .ref a_ex, .ref a_lo, .int v_nl, .ref a_ho, .ref a_fi, .int v_nf, .ref a_cz, .int v_nc])), (a_sa, .inl (k_sa, 120, .inl f_sa)), (a_ru, .inl (k_ru, 410, .inl R))]) [2, 0, 1] (by decide) rfl
                          replace hK := hK.sub (tys' := [(k_sa, .byte), (k_ru, .int)]) [0, 1] rfl
                          have hP9 := hP.sub (ws' := [(a_m, .inr (5, [.int v_th, .ref a_sa, .int v_sz, .int x_90.2.1, .int x_90.2.1, .ref a_ru, .ref a_me, .ref a_le, .int v_n, .ref a_cl, .ref a_te, .ref a_ki, .ref a_ty, .ref a_bl, .ref a_ex, .ref a_lo, .int v_nl, .ref a_ho, .ref a_fi, .int v_nf, .ref a_cz, .int v_nc])), (a_sa, .inl (k_sa, 120, .inl f_sa)), (a_ru, .inl (k_ru, 410, .inl R))]) [0, 1, 2] rfl
                          have hD9 := hD.sub (ws' := [(a_m, .inr (5, [.int v_th, .ref a_sa, .int v_sz, .int x_90.2.1, .int x_90.2.1, .ref a_ru, .ref a_me, .ref a_le, .int v_n, .ref a_cl, .ref a_te, .ref a_ki, .ref a_ty, .ref a_bl, .ref a_ex, .ref a_lo, .int v_nl, .ref a_ho, .ref a_fi, .int v_nf, .ref a_cz, .int v_nc])), (a_sa, .inl (k_sa, 120, .inl f_sa)), (a_ru, .inl (k_ru, 410, .inl R))]) [0, 1, 2] (by decide) rfl
                          have hK9 := hK.sub (tys' := [(k_sa, .byte), (k_ru, .int)]) [0, 1] rfl
                          exact W.zret (v := 0) hx hb hr rfl (fun t ht hW => ⟨⟨0, (), rfl, by rw [← hz, hE], by rw [ht, ← hz, hE]; exact hP9, va_K.moved hW.alike hK9, by rw [← hz, hE]; exact hD9⟩, hS.F ht⟩) hS.2.2 d_M_reads_160
                        · refine lv_iload_n hx hb d_M_reads_148 rfl (lv_at hl 0 rfl) ?_
                          refine lv_if_ne (tgt := 161) hx hb d_M_reads_149 (by decide) (fun c_144 => ?_) (fun c_144 => ?_)
                          · exact absurd (by decide) c_144
                          · subst hg_rd1
                            dsimp only at hE
                            rw [if_neg (by decide)] at hE
                            rw [if_neg (by decide)] at hE
                            rw [if_pos rfl] at hE
                            refine lv_aload_n hx hb d_M_reads_152 rfl (lv_at hl 3 rfl) ?_
                            refine lv_aload_n hx hb d_M_reads_153 rfl (lv_at hl 3 rfl) ?_
                            refine va_get (D := (dC, dI)) (ci := 5) (v := .int x_90.2.1) (C := "LoanRulesModel") (T := Fz_M) (N := 22) hx hb hts it_M hown hK hP 0 rfl rfl 3 (by decide) (hts _ tw_604) (fun _ h9 => h9) rfl d_M_reads_154 ?_
                            have hPc := hP.sub (ws' := [(a_m, .inr (5, [.int v_th, .ref a_sa, .int v_sz, .int x_90.2.1, .int x_90.2.2, .ref a_ru, .ref a_me, .ref a_le, .int v_n, .ref a_cl, .ref a_te, .ref a_ki, .ref a_ty, .ref a_bl, .ref a_ex, .ref a_lo, .int v_nl, .ref a_ho, .ref a_fi, .int v_nf, .ref a_cz, .int v_nc]))]) [0] rfl
                            have hKc := hK.sub (tys' := []) [] rfl
                            have hDc := hD.sub (ws' := [(a_m, .inr (5, [.int v_th, .ref a_sa, .int v_sz, .int x_90.2.1, .int x_90.2.2, .ref a_ru, .ref a_me, .ref a_le, .int v_n, .ref a_cl, .ref a_te, .ref a_ki, .ref a_ty, .ref a_bl, .ref a_ex, .ref a_lo, .int v_nl, .ref a_ho, .ref a_fi, .int v_nf, .ref a_cz, .int v_nc]))]) [0] (by decide) rfl
                            have hFc := va_free (wc := [(a_m, .inr (5, [.int v_th, .ref a_sa, .int v_sz, .int x_90.2.1, .int x_90.2.2, .ref a_ru, .ref a_me, .ref a_le, .int v_n, .ref a_cl, .ref a_te, .ref a_ki, .ref a_ty, .ref a_bl, .ref a_ex, .ref a_lo, .int v_nl, .ref a_ho, .ref a_fi, .int v_nf, .ref a_cz, .int v_nc]))]) hD hS hA [0] rfl
                            refine va_calli (va_runV (As := [.int x_90.2.1]) (rest := []) ⟨hx, hb, hml, hown, hts⟩ (c_Mg_bad l dC dI adK adV (a_m := a_m) (p0 := x_90.2.1) (v_th := v_th) (a_sa := a_sa) (v_sz := v_sz) (v_at := x_90.2.1) (v_wr := x_90.2.2) (a_ru := a_ru) (a_me := a_me) (a_le := a_le) (v_n := v_n) (a_cl := a_cl) (a_te := a_te) (a_ki := a_ki) (a_ty := a_ty) (a_bl := a_bl) (a_ex := a_ex) (a_lo := a_lo) (v_nl := v_nl) (a_ho := a_ho) (a_fi := a_fi) (v_nf := v_nf) (a_cz := a_cz) (v_nc := v_nc) (sz := H.size)) (cwV 1 hts (gV tw_688 tw_690 tw_28 tw_46 tw_691) rfl rfl rfl (by decide +kernel) ⟨(Nat.le_of_ble_eq_true rfl), (Nat.le_of_ble_eq_true rfl)⟩) ⟨fun a U g mk q => by obtain ⟨q0, q1, qZ, qP, qK, qD⟩ := q; exact ⟨q0, q1, zz_call qZ, qP, va_K.moved (u := U) (U := U.calling g mk a) (Vm.Alike.refl U.vm) qK, qD⟩, va_recv hKc hPc (ci := 5) (q0 := 0) rfl rfl, fun U hU hW => ⟨rfl, by rw [hU], zz_rw hS hFc hU hW hZ, by rw [hU]; exact hPc, va_K.moved hW.alike hKc, hDc.weaken (fun _ _ _ _ => trivial)⟩⟩ rfl rfl hl.1 rfl (lv_room (Nat.le_of_ble_eq_true rfl)) d_M_reads_157 ⟨(Nat.le_of_ble_eq_true rfl), (Nat.le_of_ble_eq_true rfl)⟩) hS (fun q _ h => hFc q h) hFc (fun r_145 u t H1 locs ht hvm hw_146 hB hz1 hk1 hS => ?_)
                            obtain ⟨hP1, hK1, hD1⟩ := hB
                            rw [ht] at hP1
                            have hK1 := va_K.moved hvm.symm hK1
                            obtain rfl : r_145 = 0 := hw_146
                            obtain ⟨hP, hD⟩ := va_join (wr := [(a_sa, .inl (k_sa, 120, .inl f_sa)), (a_ru, .inl (k_ru, 410, .inl R))]) (w1 := [(a_m, .inr (5, [.int v_th, .ref a_sa, .int v_sz, .int x_90.2.1, .int x_90.2.1, .ref a_ru, .ref a_me, .ref a_le, .int v_n, .ref a_cl, .ref a_te, .ref a_ki, .ref a_ty, .ref a_bl, .ref a_ex, .ref a_lo, .int v_nl, .ref a_ho, .ref a_fi, .int v_nf, .ref a_cz, .int v_nc]))]) hP hD [0] [1, 2] rfl rfl (by decide) (by decide) hk1 hFc hP1 hD1
                            replace hK := (hK.sub (tys' := [(k_sa, .byte), (k_ru, .int)]) [0, 1] rfl).app hK1
                            generalize H1 = H at hP hS ⊢
                            replace hP := hP.sub (ws' := [(a_m, .inr (5, [.int v_th, .ref a_sa, .int v_sz, .int x_90.2.1, .int x_90.2.1, .ref a_ru, .ref a_me, .ref a_le, .int v_n, .ref a_cl, .ref a_te, .ref a_ki, .ref a_ty, .ref a_bl, .ref a_ex, .ref a_lo, .int v_nl, .ref a_ho, .ref a_fi, .int v_nf, .ref a_cz, .int v_nc])), (a_sa, .inl (k_sa, 120, .inl f_sa)), (a_ru, .inl (k_ru, 410, .inl R))]) [2, 0, 1] rfl
                            replace hD := hD.sub (ws' := [(a_m, .inr (5, [.int v_th, .ref a_sa, .int v_sz, .int x_90.2.1, .int x_90.2.1, .ref a_ru, .ref a_me, .ref a_le, .int v_n, .ref a_cl, .ref a_te, .ref a_ki, .ref a_ty, .ref a_bl, .ref a_ex, .ref a_lo, .int v_nl, .ref a_ho, .ref a_fi, .int v_nf, .ref a_cz, .int v_nc])), (a_sa, .inl (k_sa, 120, .inl f_sa)), (a_ru, .inl (k_ru, 410, .inl R))]) [2, 0, 1] (by decide) rfl
                            replace hK := hK.sub (tys' := [(k_sa, .byte), (k_ru, .int)]) [0, 1] rfl
                            have hP9 := hP.sub (ws' := [(a_m, .inr (5, [.int v_th, .ref a_sa, .int v_sz, .int x_90.2.1, .int x_90.2.1, .ref a_ru, .ref a_me, .ref a_le, .int v_n, .ref a_cl, .ref a_te, .ref a_ki, .ref a_ty, .ref a_bl, .ref a_ex, .ref a_lo, .int v_nl, .ref a_ho, .ref a_fi, .int v_nf, .ref a_cz, .int v_nc])), (a_sa, .inl (k_sa, 120, .inl f_sa)), (a_ru, .inl (k_ru, 410, .inl R))]) [0, 1, 2] rfl
                            have hD9 := hD.sub (ws' := [(a_m, .inr (5, [.int v_th, .ref a_sa, .int v_sz, .int x_90.2.1, .int x_90.2.1, .ref a_ru, .ref a_me, .ref a_le, .int v_n, .ref a_cl, .ref a_te, .ref a_ki, .ref a_ty, .ref a_bl, .ref a_ex, .ref a_lo, .int v_nl, .ref a_ho, .ref a_fi, .int v_nf, .ref a_cz, .int v_nc])), (a_sa, .inl (k_sa, 120, .inl f_sa)), (a_ru, .inl (k_ru, 410, .inl R))]) [0, 1, 2] (by decide) rfl
                            have hK9 := hK.sub (tys' := [(k_sa, .byte), (k_ru, .int)]) [0, 1] rfl
                            exact W.zret (v := 0) hx hb hr rfl (fun t ht hW => ⟨⟨0, (), rfl, by rw [← hz, hE], by rw [ht, ← hz, hE]; exact hP9, va_K.moved hW.alike hK9, by rw [← hz, hE]; exact hD9⟩, hS.F ht⟩) hS.2.2 d_M_reads_160
                      · rw [if_pos c_140] at hg_rd1
                        refine lv_goto (tgt := 138) hx hb d_M_reads_129 (by decide) ?_
                        refine lv_iconst (v := 1) hx hb d_M_reads_138 (by decide) ?_
                        refine lv_goto (tgt := 143) hx hb d_M_reads_139 (by decide) ?_
                        refine lv_istore_n (lv' := [(3, .int 1), (2, .int (g_Mg_step (g_Mg_word v_sz x_90.2.1 f_sa))), (1, .int la), (0, .ref a_m)]) hx hb d_M_reads_143 rfl hl (by decide) rfl (fun ls hl => ?_)
                        refine lv_iload_n hx hb d_M_reads_144 rfl (lv_at hl 1 rfl) ?_
                        refine lv_if_eq (tgt := 152) hx hb d_M_reads_145 (by decide) (fun c_147 => ?_) (fun c_147 => ?_)
                        · rw [if_pos c_147] at hg_rd1
                          subst hg_rd1
                          dsimp only at hE
                          rw [if_neg (by decide)] at hE
                          rw [if_neg (by decide)] at hE
                          rw [if_pos rfl] at hE
                          refine lv_aload_n hx hb d_M_reads_152 rfl (lv_at hl 3 rfl) ?_
                          refine lv_aload_n hx hb d_M_reads_153 rfl (lv_at hl 3 rfl) ?_
                          refine va_get (D := (dC, dI)) (ci := 5) (v := .int x_90.2.1) (C := "LoanRulesModel") (T := Fz_M) (N := 22) hx hb hts it_M hown hK hP 0 rfl rfl 3 (by decide) (hts _ tw_604) (fun _ h9 => h9) rfl d_M_reads_154 ?_
                          have hPc := hP.sub (ws' := [(a_m, .inr (5, [.int v_th, .ref a_sa, .int v_sz, .int x_90.2.1, .int x_90.2.2, .ref a_ru, .ref a_me, .ref a_le, .int v_n, .ref a_cl, .ref a_te, .ref a_ki, .ref a_ty, .ref a_bl, .ref a_ex, .ref a_lo, .int v_nl, .ref a_ho, .ref a_fi, .int v_nf, .ref a_cz, .int v_nc]))]) [0] rfl
                          have hKc := hK.sub (tys' := []) [] rfl
                          have hDc := hD.sub (ws' := [(a_m, .inr (5, [.int v_th, .ref a_sa, .int v_sz, .int x_90.2.1, .int x_90.2.2, .ref a_ru, .ref a_me, .ref a_le, .int v_n, .ref a_cl, .ref a_te, .ref a_ki, .ref a_ty, .ref a_bl, .ref a_ex, .ref a_lo, .int v_nl, .ref a_ho, .ref a_fi, .int v_nf, .ref a_cz, .int v_nc]))]) [0] (by decide) rfl
                          have hFc := va_free (wc := [(a_m, .inr (5, [.int v_th, .ref a_sa, .int v_sz, .int x_90.2.1, .int x_90.2.2, .ref a_ru, .ref a_me, .ref a_le, .int v_n, .ref a_cl, .ref a_te, .ref a_ki, .ref a_ty, .ref a_bl, .ref a_ex, .ref a_lo, .int v_nl, .ref a_ho, .ref a_fi, .int v_nf, .ref a_cz, .int v_nc]))]) hD hS hA [0] rfl
                          refine va_calli (va_runV (As := [.int x_90.2.1]) (rest := []) ⟨hx, hb, hml, hown, hts⟩ (c_Mg_bad l dC dI adK adV (a_m := a_m) (p0 := x_90.2.1) (v_th := v_th) (a_sa := a_sa) (v_sz := v_sz) (v_at := x_90.2.1) (v_wr := x_90.2.2) (a_ru := a_ru) (a_me := a_me) (a_le := a_le) (v_n := v_n) (a_cl := a_cl) (a_te := a_te) (a_ki := a_ki) (a_ty := a_ty) (a_bl := a_bl) (a_ex := a_ex) (a_lo := a_lo) (v_nl := v_nl) (a_ho := a_ho) (a_fi := a_fi) (v_nf := v_nf) (a_cz := a_cz) (v_nc := v_nc) (sz := H.size)) (cwV 1 hts (gV tw_688 tw_690 tw_28 tw_46 tw_691) rfl rfl rfl (by decide +kernel) ⟨(Nat.le_of_ble_eq_true rfl), (Nat.le_of_ble_eq_true rfl)⟩) ⟨fun a U g mk q => by obtain ⟨q0, q1, qZ, qP, qK, qD⟩ := q; exact ⟨q0, q1, zz_call qZ, qP, va_K.moved (u := U) (U := U.calling g mk a) (Vm.Alike.refl U.vm) qK, qD⟩, va_recv hKc hPc (ci := 5) (q0 := 0) rfl rfl, fun U hU hW => ⟨rfl, by rw [hU], zz_rw hS hFc hU hW hZ, by rw [hU]; exact hPc, va_K.moved hW.alike hKc, hDc.weaken (fun _ _ _ _ => trivial)⟩⟩ rfl rfl hl.1 rfl (lv_room (Nat.le_of_ble_eq_true rfl)) d_M_reads_157 ⟨(Nat.le_of_ble_eq_true rfl), (Nat.le_of_ble_eq_true rfl)⟩) hS (fun q _ h => hFc q h) hFc (fun r_148 u t H1 locs ht hvm hw_149 hB hz1 hk1 hS => ?_)
                          obtain ⟨hP1, hK1, hD1⟩ := hB
                          rw [ht] at hP1
                          have hK1 := va_K.moved hvm.symm hK1
                          obtain rfl : r_148 = 0 := hw_149
                          obtain ⟨hP, hD⟩ := va_join (wr := [(a_sa, .inl (k_sa, 120, .inl f_sa)), (a_ru, .inl (k_ru, 410, .inl R))]) (w1 := [(a_m, .inr (5, [.int v_th, .ref a_sa, .int v_sz, .int x_90.2.1, .int x_90.2.1, .ref a_ru, .ref a_me, .ref a_le, .int v_n, .ref a_cl, .ref a_te, .ref a_ki, .ref a_ty, .ref a_bl, .ref a_ex, .ref a_lo, .int v_nl, .ref a_ho, .ref a_fi, .int v_nf, .ref a_cz, .int v_nc]))]) hP hD [0] [1, 2] rfl rfl (by decide) (by decide) hk1 hFc hP1 hD1
                          replace hK := (hK.sub (tys' := [(k_sa, .byte), (k_ru, .int)]) [0, 1] rfl).app hK1
                          generalize H1 = H at hP hS ⊢
                          replace hP := hP.sub (ws' := [(a_m, .inr (5, [.int v_th, .ref a_sa, .int v_sz, .int x_90.2.1, .int x_90.2.1, .ref a_ru, .ref a_me, .ref a_le, .int v_n, .ref a_cl, .ref a_te, .ref a_ki, .ref a_ty, .ref a_bl, .ref a_ex, .ref a_lo, .int v_nl, .ref a_ho, .ref a_fi, .int v_nf, .ref a_cz, .int v_nc])), (a_sa, .inl (k_sa, 120, .inl f_sa)), (a_ru, .inl (k_ru, 410, .inl R))]) [2, 0, 1] rfl
                          replace hD := hD.sub (ws' := [(a_m, .inr (5, [.int v_th, .ref a_sa, .int v_sz, .int x_90.2.1, .int x_90.2.1, .ref a_ru, .ref a_me, .ref a_le, .int v_n, .ref a_cl, .ref a_te, .ref a_ki, .ref a_ty, .ref a_bl, .ref a_ex, .ref a_lo, .int v_nl, .ref a_ho, .ref a_fi, .int v_nf, .ref a_cz, .int v_nc])), (a_sa, .inl (k_sa, 120, .inl f_sa)), (a_ru, .inl (k_ru, 410, .inl R))]) [2, 0, 1] (by decide) rfl
                          replace hK := hK.sub (tys' := [(k_sa, .byte), (k_ru, .int)]) [0, 1] rfl
                          have hP9 := hP.sub (ws' := [(a_m, .inr (5, [.int v_th, .ref a_sa, .int v_sz, .int x_90.2.1, .int x_90.2.1, .ref a_ru, .ref a_me, .ref a_le, .int v_n, .ref a_cl, .ref a_te, .ref a_ki, .ref a_ty, .ref a_bl, .ref a_ex, .ref a_lo, .int v_nl, .ref a_ho, .ref a_fi, .int v_nf, .ref a_cz, .int v_nc])), (a_sa, .inl (k_sa, 120, .inl f_sa)), (a_ru, .inl (k_ru, 410, .inl R))]) [0, 1, 2] rfl
                          have hD9 := hD.sub (ws' := [(a_m, .inr (5, [.int v_th, .ref a_sa, .int v_sz, .int x_90.2.1, .int x_90.2.1, .ref a_ru, .ref a_me, .ref a_le, .int v_n, .ref a_cl, .ref a_te, .ref a_ki, .ref a_ty, .ref a_bl, .ref a_ex, .ref a_lo, .int v_nl, .ref a_ho, .ref a_fi, .int v_nf, .ref a_cz, .int v_nc])), (a_sa, .inl (k_sa, 120, .inl f_sa)), (a_ru, .inl (k_ru, 410, .inl R))]) [0, 1, 2] (by decide) rfl
                          have hK9 := hK.sub (tys' := [(k_sa, .byte), (k_ru, .int)]) [0, 1] rfl
                          exact W.zret (v := 0) hx hb hr rfl (fun t ht hW => ⟨⟨0, (), rfl, by rw [← hz, hE], by rw [ht, ← hz, hE]; exact hP9, va_K.moved hW.alike hK9, by rw [← hz, hE]; exact hD9⟩, hS.F ht⟩) hS.2.2 d_M_reads_160
                        · rw [if_neg c_147] at hg_rd1
                          refine lv_iload_n hx hb d_M_reads_148 rfl (lv_at hl 0 rfl) ?_
                          refine lv_if_ne (tgt := 161) hx hb d_M_reads_149 (by decide) (fun c_150 => ?_) (fun c_150 => ?_)
                          · refine lv_aload_n hx hb d_M_reads_161 rfl (lv_at hl 3 rfl) ?_
                            have hPc := hP.sub (ws' := [(a_m, .inr (5, [.int v_th, .ref a_sa, .int v_sz, .int x_90.2.1, .int x_90.2.2, .ref a_ru, .ref a_me, .ref a_le, .int v_n, .ref a_cl, .ref a_te, .ref a_ki, .ref a_ty, .ref a_bl, .ref a_ex, .ref a_lo, .int v_nl, .ref a_ho, .ref a_fi, .int v_nf, .ref a_cz, .int v_nc])), (a_sa, .inl (k_sa, 120, .inl f_sa))]) [0, 1] rfl
                            have hKc := hK.sub (tys' := [(k_sa, .byte)]) [0] rfl
                            have hDc := hD.sub (ws' := [(a_m, .inr (5, [.int v_th, .ref a_sa, .int v_sz, .int x_90.2.1, .int x_90.2.2, .ref a_ru, .ref a_me, .ref a_le, .int v_n, .ref a_cl, .ref a_te, .ref a_ki, .ref a_ty, .ref a_bl, .ref a_ex, .ref a_lo, .int v_nl, .ref a_ho, .ref a_fi, .int v_nf, .ref a_cz, .int v_nc])), (a_sa, .inl (k_sa, 120, .inl f_sa))]) [0, 1] (by decide) rfl
                            have hFc := va_free (wc := [(a_m, .inr (5, [.int v_th, .ref a_sa, .int v_sz, .int x_90.2.1, .int x_90.2.2, .ref a_ru, .ref a_me, .ref a_le, .int v_n, .ref a_cl, .ref a_te, .ref a_ki, .ref a_ty, .ref a_bl, .ref a_ex, .ref a_lo, .int v_nl, .ref a_ho, .ref a_fi, .int v_nf, .ref a_cz, .int v_nc])), (a_sa, .inl (k_sa, 120, .inl f_sa))]) hD hS hA [0, 1] rfl
                            refine va_callv (va_runV (As := []) (rest := []) ⟨hx, hb, hml, hown, hts⟩ (c_Mg_pass l dC dI adK adV (a_m := a_m) (v_th := v_th) (a_sa := a_sa) (v_sz := v_sz) (v_at := x_90.2.1) (v_wr := x_90.2.2) (a_ru := a_ru) (a_me := a_me) (a_le := a_le) (v_n := v_n) (a_cl := a_cl) (a_te := a_te) (a_ki := a_ki) (a_ty := a_ty) (a_bl := a_bl) (a_ex := a_ex) (a_lo := a_lo) (v_nl := v_nl) (a_ho := a_ho) (a_fi := a_fi) (v_nf := v_nf) (a_cz := a_cz) (v_nc := v_nc) (k_sa := k_sa) (f_sa := f_sa) (sz := H.size) hsz (hg_x_90 ▸ space_at hsz ha)) (cwV 0 hts (gV tw_712 tw_714 tw_30 tw_46 tw_715) rfl rfl rfl (by decide +kernel) ⟨(Nat.le_of_ble_eq_true rfl), (Nat.le_of_ble_eq_true rfl)⟩) ⟨fun a U g mk q => by obtain ⟨q0, q1, qZ, qP, qK, qD⟩ := q; exact ⟨q0, q1, zz_call qZ, qP, va_K.moved (u := U) (U := U.calling g mk a) (Vm.Alike.refl U.vm) qK, qD⟩, va_recv hKc hPc (ci := 5) (q0 := 0) rfl rfl, fun U hU hW => ⟨rfl, by rw [hU], zz_rw hS hFc hU hW hZ, by rw [hU]; exact hPc, va_K.moved hW.alike hKc, hDc.weaken (fun _ _ _ _ => trivial)⟩⟩ rfl rfl hl.1 rfl (lv_room (Nat.le_of_ble_eq_true rfl)) d_M_reads_162 ⟨(Nat.le_of_ble_eq_true rfl), (Nat.le_of_ble_eq_true rfl)⟩) hS (fun q _ h => hFc q h) hFc (fun u t H1 locs ht hvm hw_151 hB hz1 hk1 hS => ?_)
                            generalize hg_x_152 : g_Mg_pass v_sz x_90.2.1 f_sa = x_152 at hw_151 hB hg_rd1
                            rw [bv_eq] at hg_rd1
                            obtain ⟨hP1, hK1, hD1⟩ := hB
                            rw [ht] at hP1
                            have hK1 := va_K.moved hvm.symm hK1
                            obtain ⟨hP, hD⟩ := va_join (wr := [(a_ru, .inl (k_ru, 410, .inl R))]) (w1 := [(a_m, .inr (5, [.int v_th, .ref a_sa, .int v_sz, .int x_152, .int x_90.2.2, .ref a_ru, .ref a_me, .ref a_le, .int v_n, .ref a_cl, .ref a_te, .ref a_ki, .ref a_ty, .ref a_bl, .ref a_ex, .ref a_lo, .int v_nl, .ref a_ho, .ref a_fi, .int v_nf, .ref a_cz, .int v_nc])), (a_sa, .inl (k_sa, 120, .inl f_sa))]) hP hD [0, 1] [2] rfl rfl (by decide) (by decide) hk1 hFc hP1 hD1
                            replace hK := (hK.sub (tys' := [(k_ru, .int)]) [1] rfl).app hK1
                            generalize H1 = H at hP hS ⊢
                            replace hP := hP.sub (ws' := [(a_m, .inr (5, [.int v_th, .ref a_sa, .int v_sz, .int x_152, .int x_90.2.2, .ref a_ru, .ref a_me, .ref a_le, .int v_n, .ref a_cl, .ref a_te, .ref a_ki, .ref a_ty, .ref a_bl, .ref a_ex, .ref a_lo, .int v_nl, .ref a_ho, .ref a_fi, .int v_nf, .ref a_cz, .int v_nc])), (a_sa, .inl (k_sa, 120, .inl f_sa)), (a_ru, .inl (k_ru, 410, .inl R))]) [1, 2, 0] rfl
                            replace hD := hD.sub (ws' := [(a_m, .inr (5, [.int v_th, .ref a_sa, .int v_sz, .int x_152, .int x_90.2.2, .ref a_ru, .ref a_me, .ref a_le, .int v_n, .ref a_cl, .ref a_te, .ref a_ki, .ref a_ty, .ref a_bl, .ref a_ex, .ref a_lo, .int v_nl, .ref a_ho, .ref a_fi, .int v_nf, .ref a_cz, .int v_nc])), (a_sa, .inl (k_sa, 120, .inl f_sa)), (a_ru, .inl (k_ru, 410, .inl R))]) [1, 2, 0] (by decide) rfl
                            replace hK := hK.sub (tys' := [(k_sa, .byte), (k_ru, .int)]) [1, 0] rfl
                            refine lv_aload_n hx hb d_M_reads_165 rfl (lv_at hl 3 rfl) ?_
                            refine lv_iload_n hx hb d_M_reads_166 rfl (lv_at hl 1 rfl) ?_
                            have hPc := hP.sub (ws' := [(a_m, .inr (5, [.int v_th, .ref a_sa, .int v_sz, .int x_152, .int x_90.2.2, .ref a_ru, .ref a_me, .ref a_le, .int v_n, .ref a_cl, .ref a_te, .ref a_ki, .ref a_ty, .ref a_bl, .ref a_ex, .ref a_lo, .int v_nl, .ref a_ho, .ref a_fi, .int v_nf, .ref a_cz, .int v_nc])), (a_sa, .inl (k_sa, 120, .inl f_sa)), (a_ru, .inl (k_ru, 410, .inl R))]) [0, 1, 2] rfl
                            have hKc := hK.sub (tys' := [(k_sa, .byte), (k_ru, .int)]) [0, 1] rfl
                            have hDc := hD.sub (ws' := [(a_m, .inr (5, [.int v_th, .ref a_sa, .int v_sz, .int x_152, .int x_90.2.2, .ref a_ru, .ref a_me, .ref a_le, .int v_n, .ref a_cl, .ref a_te, .ref a_ki, .ref a_ty, .ref a_bl, .ref a_ex, .ref a_lo, .int v_nl, .ref a_ho, .ref a_fi, .int v_nf, .ref a_cz, .int v_nc])), (a_sa, .inl (k_sa, 120, .inl f_sa)), (a_ru, .inl (k_ru, 410, .inl R))]) [0, 1, 2] (by decide) rfl
                            have hFc := va_free (wc := [(a_m, .inr (5, [.int v_th, .ref a_sa, .int v_sz, .int x_152, .int x_90.2.2, .ref a_ru, .ref a_me, .ref a_le, .int v_n, .ref a_cl, .ref a_te, .ref a_ki, .ref a_ty, .ref a_bl, .ref a_ex, .ref a_lo, .int v_nl, .ref a_ho, .ref a_fi, .int v_nf, .ref a_cz, .int v_nc])), (a_sa, .inl (k_sa, 120, .inl f_sa)), (a_ru, .inl (k_ru, 410, .inl R))]) hD hS hA [0, 1, 2] rfl
                            refine va_calli (va_runV (As := [.int (g_Mg_step (g_Mg_word v_sz x_90.2.1 f_sa))]) (rest := []) ⟨hx, hb, hml, hown, hts⟩ (c_Mg_one l dC dI adK adV (a_m := a_m) (p0 := g_Mg_step (g_Mg_word v_sz x_90.2.1 f_sa)) (v_th := v_th) (a_sa := a_sa) (v_sz := v_sz) (v_at := x_152) (v_wr := x_90.2.2) (a_ru := a_ru) (a_me := a_me) (a_le := a_le) (v_n := v_n) (a_cl := a_cl) (a_te := a_te) (a_ki := a_ki) (a_ty := a_ty) (a_bl := a_bl) (a_ex := a_ex) (a_lo := a_lo) (v_nl := v_nl) (a_ho := a_ho) (a_fi := a_fi) (v_nf := v_nf) (a_cz := a_cz) (v_nc := v_nc) (k_sa := k_sa) (f_sa := f_sa) (k_ru := k_ru) (f_ru := R) (sz := H.size) hsz (hg_x_152 ▸ pass_at hsz (hg_x_90 ▸ space_at hsz ha)) hn) (cwV 1 hts (gV tw_716 tw_718 tw_31 tw_46 tw_719) rfl rfl rfl (by decide +kernel) ⟨(Nat.le_of_ble_eq_true rfl), (Nat.le_of_ble_eq_true rfl)⟩) ⟨fun a U g mk q => by obtain ⟨q0, q1, qZ, qP, qK, qD⟩ := q; exact ⟨q0, q1, zz_call qZ, qP, va_K.moved (u := U) (U := U.calling g mk a) (Vm.Alike.refl U.vm) qK, qD⟩, va_recv hKc hPc (ci := 5) (q0 := 0) rfl rfl, fun U hU hW => ⟨rfl, by rw [hU], zz_rw hS hFc hU hW hZ, by rw [hU]; exact hPc, va_K.moved hW.alike hKc, hDc.weaken (fun _ _ _ _ => trivial)⟩⟩ rfl rfl hl.1 rfl (lv_room (Nat.le_of_ble_eq_true rfl)) d_M_reads_167 ⟨(Nat.le_of_ble_eq_true rfl), (Nat.le_of_ble_eq_true rfl)⟩) hS (fun q _ h => hFc q h) hFc (fun r_153 u t H1 locs ht hvm hw_154 hB hz1 hk1 hS => ?_)
                            generalize hg_x_155 : g_Mg_one (g_Mg_step (g_Mg_word v_sz x_90.2.1 f_sa)) v_sz x_152 x_90.2.2 v_n f_sa R = x_155 at hw_154 hB hg_rd1
                            rw [bv_eq] at hg_rd1
                            obtain ⟨hP1, hK1, hD1⟩ := hB
                            rw [ht] at hP1
                            have hK1 := va_K.moved hvm.symm hK1
                            obtain rfl : r_153 = x_155.1 := hw_154
                            obtain ⟨hP, hD⟩ := va_join (wr := []) (w1 := [(a_m, .inr (5, [.int v_th, .ref a_sa, .int v_sz, .int x_155.2.1, .int x_155.2.2.1, .ref a_ru, .ref a_me, .ref a_le, .int v_n, .ref a_cl, .ref a_te, .ref a_ki, .ref a_ty, .ref a_bl, .ref a_ex, .ref a_lo, .int v_nl, .ref a_ho, .ref a_fi, .int v_nf, .ref a_cz, .int v_nc])), (a_sa, .inl (k_sa, 120, .inl f_sa)), (a_ru, .inl (k_ru, 410, .inl x_155.2.2.2))]) hP hD [0, 1, 2] [] rfl rfl (by decide) (by decide) hk1 hFc hP1 hD1
                            replace hK := (hK.sub (tys' := []) [] rfl).app hK1
                            generalize H1 = H at hP hS ⊢
                            replace hP := hP.sub (ws' := [(a_m, .inr (5, [.int v_th, .ref a_sa, .int v_sz, .int x_155.2.1, .int x_155.2.2.1, .ref a_ru, .ref a_me, .ref a_le, .int v_n, .ref a_cl, .ref a_te, .ref a_ki, .ref a_ty, .ref a_bl, .ref a_ex, .ref a_lo, .int v_nl, .ref a_ho, .ref a_fi, .int v_nf, .ref a_cz, .int v_nc])), (a_sa, .inl (k_sa, 120, .inl f_sa)), (a_ru, .inl (k_ru, 410, .inl x_155.2.2.2))]) [0, 1, 2] rfl
                            replace hD := hD.sub (ws' := [(a_m, .inr (5, [.int v_th, .ref a_sa, .int v_sz, .int x_155.2.1, .int x_155.2.2.1, .ref a_ru, .ref a_me, .ref a_le, .int v_n, .ref a_cl, .ref a_te, .ref a_ki, .ref a_ty, .ref a_bl, .ref a_ex, .ref a_lo, .int v_nl, .ref a_ho, .ref a_fi, .int v_nf, .ref a_cz, .int v_nc])), (a_sa, .inl (k_sa, 120, .inl f_sa)), (a_ru, .inl (k_ru, 410, .inl x_155.2.2.2))]) [0, 1, 2] (by decide) rfl
                            replace hK := hK.sub (tys' := [(k_sa, .byte), (k_ru, .int)]) [0, 1] rfl
                            refine lv_if_ne (tgt := 175) hx hb d_M_reads_170 (by decide) (fun c_156 => ?_) (fun c_156 => ?_)
                            · rw [if_neg c_156] at hg_rd1
                              refine lv_iload_n hx hb d_M_reads_175 rfl (lv_at hl 1 rfl) ?_
                              refine lv_istore_n (lv' := [(1, .int (g_Mg_step (g_Mg_word v_sz x_90.2.1 f_sa))), (3, .int 1), (2, .int (g_Mg_step (g_Mg_word v_sz x_90.2.1 f_sa))), (0, .ref a_m)]) hx hb d_M_reads_176 rfl hl (by decide) rfl (fun ls hl => ?_)
                              refine lv_goto (tgt := 56) hx hb d_M_reads_177 (by decide) ?_
                              exact ih_rd1 _ _ _ _ _ _ _ ⟨hP, hD, hS, lv_sub hl [0, 3] rfl, ((hg_x_155 ▸ one_at hsz (hg_x_152 ▸ pass_at hsz (hg_x_90 ▸ space_at hsz ha)))), (step_le _), (li_mt hla c_96 (step_le _) hm_rd1), hg_rd1⟩
                            · rw [if_pos c_156] at hg_rd1
                              subst hg_rd1
                              dsimp only at hE
                              rw [if_neg (by decide)] at hE
                              rw [if_neg (by decide)] at hE
                              rw [if_neg (by decide)] at hE
                              refine lv_iconst (v := 0) hx hb d_M_reads_173 (by decide) ?_
                              have hP9 := hP.sub (ws' := [(a_m, .inr (5, [.int v_th, .ref a_sa, .int v_sz, .int x_155.2.1, .int x_155.2.2.1, .ref a_ru, .ref a_me, .ref a_le, .int v_n, .ref a_cl, .ref a_te, .ref a_ki, .ref a_ty, .ref a_bl, .ref a_ex, .ref a_lo, .int v_nl, .ref a_ho, .ref a_fi, .int v_nf, .ref a_cz, .int v_nc])), (a_sa, .inl (k_sa, 120, .inl f_sa)), (a_ru, .inl (k_ru, 410, .inl x_155.2.2.2))]) [0, 1, 2] rfl
                              have hD9 := hD.sub (ws' := [(a_m, .inr (5, [.int v_th, .ref a_sa, .int v_sz, .int x_155.2.1, .int x_155.2.2.1, .ref a_ru, .ref a_me, .ref a_le, .int v_n, .ref a_cl, .ref a_te, .ref a_ki, .ref a_ty, .ref a_bl, .ref a_ex, .ref a_lo, .int v_nl, .ref a_ho, .ref a_fi, .int v_nf, .ref a_cz, .int v_nc])), (a_sa, .inl (k_sa, 120, .inl f_sa)), (a_ru, .inl (k_ru, 410, .inl x_155.2.2.2))]) [0, 1, 2] (by decide) rfl
                              have hK9 := hK.sub (tys' := [(k_sa, .byte), (k_ru, .int)]) [0, 1] rfl
                              exact W.zret (v := 0) hx hb hr rfl (fun t ht hW => ⟨⟨0, (), rfl, by rw [← hz, hE], by rw [ht, ← hz, hE]; exact hP9, va_K.moved hW.alike hK9, by rw [← hz, hE]; exact hD9⟩, hS.F ht⟩) hS.2.2 d_M_reads_174
                          · exact absurd c_150 (by decide)
                · rw [if_neg c_103] at hg_rd1
                  refine lv_iload_n hx hb d_M_reads_103 rfl (lv_at hl 0 rfl) ?_
                  refine lv_bipush (v := 7) hx hb d_M_reads_104 (by decide) ?_
                  refine lv_icmp_ge (tgt := 142) hx hb d_M_reads_106 (by decide) (fun c_157 => ?_) (fun c_157 => ?_)
                  · rw [if_pos c_157] at hg_rd1
                    refine lv_iconst (v := 0) hx hb d_M_reads_142 (by decide) ?_
                    refine lv_istore_n (lv' := [(3, .int 0), (2, .int (g_Mg_step (g_Mg_word v_sz x_90.2.1 f_sa))), (1, .int la), (0, .ref a_m)]) hx hb d_M_reads_143 rfl hl (by decide) rfl (fun ls hl => ?_)
                    refine lv_iload_n hx hb d_M_reads_144 rfl (lv_at hl 1 rfl) ?_
                    refine lv_if_eq (tgt := 152) hx hb d_M_reads_145 (by decide) (fun c_158 => ?_) (fun c_158 => ?_)
                    · subst hg_rd1
                      dsimp only at hE
                      rw [if_neg (by decide)] at hE
                      rw [if_neg (by decide)] at hE
                      rw [if_pos rfl] at hE
                      refine lv_aload_n hx hb d_M_reads_152 rfl (lv_at hl 3 rfl) ?_
                      refine lv_aload_n hx hb d_M_reads_153 rfl (lv_at hl 3 rfl) ?_
                      refine va_get (D := (dC, dI)) (ci := 5) (v := .int x_90.2.1) (C := "LoanRulesModel") (T := Fz_M) (N := 22) hx hb hts it_M hown hK hP 0 rfl rfl 3 (by decide) (hts _ tw_604) (fun _ h9 => h9) rfl d_M_reads_154 ?_
                      have hPc := hP.sub (ws' := [(a_m, .inr (5, [.int v_th, .ref a_sa, .int v_sz, .int x_90.2.1, .int x_90.2.2, .ref a_ru, .ref a_me, .ref a_le, .int v_n, .ref a_cl, .ref a_te, .ref a_ki, .ref a_ty, .ref a_bl, .ref a_ex, .ref a_lo, .int v_nl, .ref a_ho, .ref a_fi, .int v_nf, .ref a_cz, .int v_nc]))]) [0] rfl
                      have hKc := hK.sub (tys' := []) [] rfl
                      have hDc := hD.sub (ws' := [(a_m, .inr (5, [.int v_th, .ref a_sa, .int v_sz, .int x_90.2.1, .int x_90.2.2, .ref a_ru, .ref a_me, .ref a_le, .int v_n, .ref a_cl, .ref a_te, .ref a_ki, .ref a_ty, .ref a_bl, .ref a_ex, .ref a_lo, .int v_nl, .ref a_ho, .ref a_fi, .int v_nf, .ref a_cz, .int v_nc]))]) [0] (by decide) rfl
                      have hFc := va_free (wc := [(a_m, .inr (5, [.int v_th, .ref a_sa, .int v_sz, .int x_90.2.1, .int x_90.2.2, .ref a_ru, .ref a_me, .ref a_le, .int v_n, .ref a_cl, .ref a_te, .ref a_ki, .ref a_ty, .ref a_bl, .ref a_ex, .ref a_lo, .int v_nl, .ref a_ho, .ref a_fi, .int v_nf, .ref a_cz, .int v_nc]))]) hD hS hA [0] rfl
                      refine va_calli (va_runV (As := [.int x_90.2.1]) (rest := []) ⟨hx, hb, hml, hown, hts⟩ (c_Mg_bad l dC dI adK adV (a_m := a_m) (p0 := x_90.2.1) (v_th := v_th) (a_sa := a_sa) (v_sz := v_sz) (v_at := x_90.2.1) (v_wr := x_90.2.2) (a_ru := a_ru) (a_me := a_me) (a_le := a_le) (v_n := v_n) (a_cl := a_cl) (a_te := a_te) (a_ki := a_ki) (a_ty := a_ty) (a_bl := a_bl) (a_ex := a_ex) (a_lo := a_lo) (v_nl := v_nl) (a_ho := a_ho) (a_fi := a_fi) (v_nf := v_nf) (a_cz := a_cz) (v_nc := v_nc) (sz := H.size)) (cwV 1 hts (gV tw_688 tw_690 tw_28 tw_46 tw_691) rfl rfl rfl (by decide +kernel) ⟨(Nat.le_of_ble_eq_true rfl), (Nat.le_of_ble_eq_true rfl)⟩) ⟨fun a U g mk q => by obtain ⟨q0, q1, qZ, qP, qK, qD⟩ := q; exact ⟨q0, q1, zz_call qZ, qP, va_K.moved (u := U) (U := U.calling g mk a) (Vm.Alike.refl U.vm) qK, qD⟩, va_recv hKc hPc (ci := 5) (q0 := 0) rfl rfl, fun U hU hW => ⟨rfl, by rw [hU], zz_rw hS hFc hU hW hZ, by rw [hU]; exact hPc, va_K.moved hW.alike hKc, hDc.weaken (fun _ _ _ _ => trivial)⟩⟩ rfl rfl hl.1 rfl (lv_room (Nat.le_of_ble_eq_true rfl)) d_M_reads_157 ⟨(Nat.le_of_ble_eq_true rfl), (Nat.le_of_ble_eq_true rfl)⟩) hS (fun q _ h => hFc q h) hFc (fun r_159 u t H1 locs ht hvm hw_160 hB hz1 hk1 hS => ?_)
                      obtain ⟨hP1, hK1, hD1⟩ := hB
                      rw [ht] at hP1
                      have hK1 := va_K.moved hvm.symm hK1
                      obtain rfl : r_159 = 0 := hw_160
                      obtain ⟨hP, hD⟩ := va_join (wr := [(a_sa, .inl (k_sa, 120, .inl f_sa)), (a_ru, .inl (k_ru, 410, .inl R))]) (w1 := [(a_m, .inr (5, [.int v_th, .ref a_sa, .int v_sz, .int x_90.2.1, .int x_90.2.1, .ref a_ru, .ref a_me, .ref a_le, .int v_n, .ref a_cl, .ref a_te, .ref a_ki, .ref a_ty, .ref a_bl, .ref a_ex, .ref a_lo, .int v_nl, .ref a_ho, .ref a_fi, .int v_nf, .ref a_cz, .int v_nc]))]) hP hD [0] [1, 2] rfl rfl (by decide) (by decide) hk1 hFc hP1 hD1
                      replace hK := (hK.sub (tys' := [(k_sa, .byte), (k_ru, .int)]) [0, 1] rfl).app hK1
                      generalize H1 = H at hP hS ⊢
                      replace hP := hP.sub (ws' := [(a_m, .inr (5, [.int v_th, .ref a_sa, .int v_sz, .int x_90.2.1, .int x_90.2.1, .ref a_ru, .ref a_me, .ref a_le, .int v_n, .ref a_cl, .ref a_te, .ref a_ki, .ref a_ty, .ref a_bl, .ref a_ex, .ref a_lo, .int v_nl, .ref a_ho, .ref a_fi, .int v_nf, .ref a_cz, .int v_nc])), (a_sa, .inl (k_sa, 120, .inl f_sa)), (a_ru, .inl (k_ru, 410, .inl R))]) [2, 0, 1] rfl
                      replace hD := hD.sub (ws' := [(a_m, .inr (5, [.int v_th, .ref a_sa, .int v_sz, .int x_90.2.1, .int x_90.2.1, .ref a_ru, .ref a_me, .ref a_le, .int v_n, .ref a_cl, .ref a_te, .ref a_ki, .ref a_ty, .ref a_bl, .ref a_ex, .ref a_lo, .int v_nl, .ref a_ho, .ref a_fi, .int v_nf, .ref a_cz, .int v_nc])), (a_sa, .inl (k_sa, 120, .inl f_sa)), (a_ru, .inl (k_ru, 410, .inl R))]) [2, 0, 1] (by decide) rfl
                      replace hK := hK.sub (tys' := [(k_sa, .byte), (k_ru, .int)]) [0, 1] rfl
                      have hP9 := hP.sub (ws' := [(a_m, .inr (5, [.int v_th, .ref a_sa, .int v_sz, .int x_90.2.1, .int x_90.2.1, .ref a_ru, .ref a_me, .ref a_le, .int v_n, .ref a_cl, .ref a_te, .ref a_ki, .ref a_ty, .ref a_bl, .ref a_ex, .ref a_lo, .int v_nl, .ref a_ho, .ref a_fi, .int v_nf, .ref a_cz, .int v_nc])), (a_sa, .inl (k_sa, 120, .inl f_sa)), (a_ru, .inl (k_ru, 410, .inl R))]) [0, 1, 2] rfl
                      have hD9 := hD.sub (ws' := [(a_m, .inr (5, [.int v_th, .ref a_sa, .int v_sz, .int x_90.2.1, .int x_90.2.1, .ref a_ru, .ref a_me, .ref a_le, .int v_n, .ref a_cl, .ref a_te, .ref a_ki, .ref a_ty, .ref a_bl, .ref a_ex, .ref a_lo, .int v_nl, .ref a_ho, .ref a_fi, .int v_nf, .ref a_cz, .int v_nc])), (a_sa, .inl (k_sa, 120, .inl f_sa)), (a_ru, .inl (k_ru, 410, .inl R))]) [0, 1, 2] (by decide) rfl
                      have hK9 := hK.sub (tys' := [(k_sa, .byte), (k_ru, .int)]) [0, 1] rfl
                      exact W.zret (v := 0) hx hb hr rfl (fun t ht hW => ⟨⟨0, (), rfl, by rw [← hz, hE], by rw [ht, ← hz, hE]; exact hP9, va_K.moved hW.alike hK9, by rw [← hz, hE]; exact hD9⟩, hS.F ht⟩) hS.2.2 d_M_reads_160
                    · refine lv_iload_n hx hb d_M_reads_148 rfl (lv_at hl 0 rfl) ?_
                      refine lv_if_ne (tgt := 161) hx hb d_M_reads_149 (by decide) (fun c_161 => ?_) (fun c_161 => ?_)
                      · exact absurd (by decide) c_161
                      · subst hg_rd1
                        dsimp only at hE
                        rw [if_neg (by decide)] at hE
                        rw [if_neg (by decide)] at hE
                        rw [if_pos rfl] at hE
                        refine lv_aload_n hx hb d_M_reads_152 rfl (lv_at hl 3 rfl) ?_
                        refine lv_aload_n hx hb d_M_reads_153 rfl (lv_at hl 3 rfl) ?_
                        refine va_get (D := (dC, dI)) (ci := 5) (v := .int x_90.2.1) (C := "LoanRulesModel") (T := Fz_M) (N := 22) hx hb hts it_M hown hK hP 0 rfl rfl 3 (by decide) (hts _ tw_604) (fun _ h9 => h9) rfl d_M_reads_154 ?_
                        have hPc := hP.sub (ws' := [(a_m, .inr (5, [.int v_th, .ref a_sa, .int v_sz, .int x_90.2.1, .int x_90.2.2, .ref a_ru, .ref a_me, .ref a_le, .int v_n, .ref a_cl, .ref a_te, .ref a_ki, .ref a_ty, .ref a_bl, .ref a_ex, .ref a_lo, .int v_nl, .ref a_ho, .ref a_fi, .int v_nf, .ref a_cz, .int v_nc]))]) [0] rfl
                        have hKc := hK.sub (tys' := []) [] rfl
                        have hDc := hD.sub (ws' := [(a_m, .inr (5, [.int v_th, .ref a_sa, .int v_sz, .int x_90.2.1, .int x_90.2.2, .ref a_ru, .ref a_me, .ref a_le, .int v_n, .ref a_cl, .ref a_te, .ref a_ki, .ref a_ty, .ref a_bl, .ref a_ex, .ref a_lo, .int v_nl, .ref a_ho, .ref a_fi, .int v_nf, .ref a_cz, .int v_nc]))]) [0] (by decide) rfl
                        have hFc := va_free (wc := [(a_m, .inr (5, [.int v_th, .ref a_sa, .int v_sz, .int x_90.2.1, .int x_90.2.2, .ref a_ru, .ref a_me, .ref a_le, .int v_n, .ref a_cl, .ref a_te, .ref a_ki, .ref a_ty, .ref a_bl, .ref a_ex, .ref a_lo, .int v_nl, .ref a_ho, .ref a_fi, .int v_nf, .ref a_cz, .int v_nc]))]) hD hS hA [0] rfl
                        refine va_calli (va_runV (As := [.int x_90.2.1]) (rest := []) ⟨hx, hb, hml, hown, hts⟩ (c_Mg_bad l dC dI adK adV (a_m := a_m) (p0 := x_90.2.1) (v_th := v_th) (a_sa := a_sa) (v_sz := v_sz) (v_at := x_90.2.1) (v_wr := x_90.2.2) (a_ru := a_ru) (a_me := a_me) (a_le := a_le) (v_n := v_n) (a_cl := a_cl) (a_te := a_te) (a_ki := a_ki) (a_ty := a_ty) (a_bl := a_bl) (a_ex := a_ex) (a_lo := a_lo) (v_nl := v_nl) (a_ho := a_ho) (a_fi := a_fi) (v_nf := v_nf) (a_cz := a_cz) (v_nc := v_nc) (sz := H.size)) (cwV 1 hts (gV tw_688 tw_690 tw_28 tw_46 tw_691) rfl rfl rfl (by decide +kernel) ⟨(Nat.le_of_ble_eq_true rfl), (Nat.le_of_ble_eq_true rfl)⟩) ⟨fun a U g mk q => by obtain ⟨q0, q1, qZ, qP, qK, qD⟩ := q; exact ⟨q0, q1, zz_call qZ, qP, va_K.moved (u := U) (U := U.calling g mk a) (Vm.Alike.refl U.vm) qK, qD⟩, va_recv hKc hPc (ci := 5) (q0 := 0) rfl rfl, fun U hU hW => ⟨rfl, by rw [hU], zz_rw hS hFc hU hW hZ, by rw [hU]; exact hPc, va_K.moved hW.alike hKc, hDc.weaken (fun _ _ _ _ => trivial)⟩⟩ rfl rfl hl.1 rfl (lv_room (Nat.le_of_ble_eq_true rfl)) d_M_reads_157 ⟨(Nat.le_of_ble_eq_true rfl), (Nat.le_of_ble_eq_true rfl)⟩) hS (fun q _ h => hFc q h) hFc (fun r_162 u t H1 locs ht hvm hw_163 hB hz1 hk1 hS => ?_)
                        obtain ⟨hP1, hK1, hD1⟩ := hB
                        rw [ht] at hP1
                        have hK1 := va_K.moved hvm.symm hK1
                        obtain rfl : r_162 = 0 := hw_163
                        obtain ⟨hP, hD⟩ := va_join (wr := [(a_sa, .inl (k_sa, 120, .inl f_sa)), (a_ru, .inl (k_ru, 410, .inl R))]) (w1 := [(a_m, .inr (5, [.int v_th, .ref a_sa, .int v_sz, .int x_90.2.1, .int x_90.2.1, .ref a_ru, .ref a_me, .ref a_le, .int v_n, .ref a_cl, .ref a_te, .ref a_ki, .ref a_ty, .ref a_bl, .ref a_ex, .ref a_lo, .int v_nl, .ref a_ho, .ref a_fi, .int v_nf, .ref a_cz, .int v_nc]))]) hP hD [0] [1, 2] rfl rfl (by decide) (by decide) hk1 hFc hP1 hD1
                        replace hK := (hK.sub (tys' := [(k_sa, .byte), (k_ru, .int)]) [0, 1] rfl).app hK1
                        generalize H1 = H at hP hS ⊢
                        replace hP := hP.sub (ws' := [(a_m, .inr (5, [.int v_th, .ref a_sa, .int v_sz, .int x_90.2.1, .int x_90.2.1, .ref a_ru, .ref a_me, .ref a_le, .int v_n, .ref a_cl, .ref a_te, .ref a_ki, .ref a_ty, .ref a_bl, .ref a_ex, .ref a_lo, .int v_nl, .ref a_ho, .ref a_fi, .int v_nf, .ref a_cz, .int v_nc])), (a_sa, .inl (k_sa, 120, .inl f_sa)), (a_ru, .inl (k_ru, 410, .inl R))]) [2, 0, 1] rfl
                        replace hD := hD.sub (ws' := [(a_m, .inr (5, [.int v_th, .ref a_sa, .int v_sz, .int x_90.2.1, .int x_90.2.1, .ref a_ru, .ref a_me, .ref a_le, .int v_n, .ref a_cl, .ref a_te, .ref a_ki, .ref a_ty, .ref a_bl, .ref a_ex, .ref a_lo, .int v_nl, .ref a_ho, .ref a_fi, .int v_nf, .ref a_cz, .int v_nc])), (a_sa, .inl (k_sa, 120, .inl f_sa)), (a_ru, .inl (k_ru, 410, .inl R))]) [2, 0, 1] (by decide) rfl
                        replace hK := hK.sub (tys' := [(k_sa, .byte), (k_ru, .int)]) [0, 1] rfl
                        have hP9 := hP.sub (ws' := [(a_m, .inr (5, [.int v_th, .ref a_sa, .int v_sz, .int x_90.2.1, .int x_90.2.1, .ref a_ru, .ref a_me, .ref a_le, .int v_n, .ref a_cl, .ref a_te, .ref a_ki, .ref a_ty, .ref a_bl, .ref a_ex, .ref a_lo, .int v_nl, .ref a_ho, .ref a_fi, .int v_nf, .ref a_cz, .int v_nc])), (a_sa, .inl (k_sa, 120, .inl f_sa)), (a_ru, .inl (k_ru, 410, .inl R))]) [0, 1, 2] rfl
                        have hD9 := hD.sub (ws' := [(a_m, .inr (5, [.int v_th, .ref a_sa, .int v_sz, .int x_90.2.1, .int x_90.2.1, .ref a_ru, .ref a_me, .ref a_le, .int v_n, .ref a_cl, .ref a_te, .ref a_ki, .ref a_ty, .ref a_bl, .ref a_ex, .ref a_lo, .int v_nl, .ref a_ho, .ref a_fi, .int v_nf, .ref a_cz, .int v_nc])), (a_sa, .inl (k_sa, 120, .inl f_sa)), (a_ru, .inl (k_ru, 410, .inl R))]) [0, 1, 2] (by decide) rfl
                        have hK9 := hK.sub (tys' := [(k_sa, .byte), (k_ru, .int)]) [0, 1] rfl
                        exact W.zret (v := 0) hx hb hr rfl (fun t ht hW => ⟨⟨0, (), rfl, by rw [← hz, hE], by rw [ht, ← hz, hE]; exact hP9, va_K.moved hW.alike hK9, by rw [← hz, hE]; exact hD9⟩, hS.F ht⟩) hS.2.2 d_M_reads_160
                  · rw [if_neg c_157] at hg_rd1
                    refine lv_goto (tgt := 138) hx hb d_M_reads_109 (by decide) ?_
                    refine lv_iconst (v := 1) hx hb d_M_reads_138 (by decide) ?_
                    refine lv_goto (tgt := 143) hx hb d_M_reads_139 (by decide) ?_
                    refine lv_istore_n (lv' := [(3, .int 1), (2, .int (g_Mg_step (g_Mg_word v_sz x_90.2.1 f_sa))), (1, .int la), (0, .ref a_m)]) hx hb d_M_reads_143 rfl hl (by decide) rfl (fun ls hl => ?_)
                    refine lv_iload_n hx hb d_M_reads_144 rfl (lv_at hl 1 rfl) ?_
                    refine lv_if_eq (tgt := 152) hx hb d_M_reads_145 (by decide) (fun c_164 => ?_) (fun c_164 => ?_)
                    · rw [if_pos c_164] at hg_rd1
                      subst hg_rd1
                      dsimp only at hE
                      rw [if_neg (by decide)] at hE
                      rw [if_neg (by decide)] at hE
                      rw [if_pos rfl] at hE
                      refine lv_aload_n hx hb d_M_reads_152 rfl (lv_at hl 3 rfl) ?_
                      refine lv_aload_n hx hb d_M_reads_153 rfl (lv_at hl 3 rfl) ?_
                      refine va_get (D := (dC, dI)) (ci := 5) (v := .int x_90.2.1) (C := "LoanRulesModel") (T := Fz_M) (N := 22) hx hb hts it_M hown hK hP 0 rfl rfl 3 (by decide) (hts _ tw_604) (fun _ h9 => h9) rfl d_M_reads_154 ?_
                      have hPc := hP.sub (ws' := [(a_m, .inr (5, [.int v_th, .ref a_sa, .int v_sz, .int x_90.2.1, .int x_90.2.2, .ref a_ru, .ref a_me, .ref a_le, .int v_n, .ref a_cl, .ref a_te, .ref a_ki, .ref a_ty, .ref a_bl, .ref a_ex, .ref a_lo, .int v_nl, .ref a_ho, .ref a_fi, .int v_nf, .ref a_cz, .int v_nc]))]) [0] rfl
                      have hKc := hK.sub (tys' := []) [] rfl
                      have hDc := hD.sub (ws' := [(a_m, .inr (5, [.int v_th, .ref a_sa, .int v_sz, .int x_90.2.1, .int x_90.2.2, .ref a_ru, .ref a_me, .ref a_le, .int v_n, .ref a_cl, .ref a_te, .ref a_ki, .ref a_ty, .ref a_bl, .ref a_ex, .ref a_lo, .int v_nl, .ref a_ho, .ref a_fi, .int v_nf, .ref a_cz, .int v_nc]))]) [0] (by decide) rfl
                      have hFc := va_free (wc := [(a_m, .inr (5, [.int v_th, .ref a_sa, .int v_sz, .int x_90.2.1, .int x_90.2.2, .ref a_ru, .ref a_me, .ref a_le, .int v_n, .ref a_cl, .ref a_te, .ref a_ki, .ref a_ty, .ref a_bl, .ref a_ex, .ref a_lo, .int v_nl, .ref a_ho, .ref a_fi, .int v_nf, .ref a_cz, .int v_nc]))]) hD hS hA [0] rfl
                      refine va_calli (va_runV (As := [.int x_90.2.1]) (rest := []) ⟨hx, hb, hml, hown, hts⟩ (c_Mg_bad l dC dI adK adV (a_m := a_m) (p0 := x_90.2.1) (v_th := v_th) (a_sa := a_sa) (v_sz := v_sz) (v_at := x_90.2.1) (v_wr := x_90.2.2) (a_ru := a_ru) (a_me := a_me) (a_le := a_le) (v_n := v_n) (a_cl := a_cl) (a_te := a_te) (a_ki := a_ki) (a_ty := a_ty) (a_bl := a_bl) (a_ex := a_ex) (a_lo := a_lo) (v_nl := v_nl) (a_ho := a_ho) (a_fi := a_fi) (v_nf := v_nf) (a_cz := a_cz) (v_nc := v_nc) (sz := H.size)) (cwV 1 hts (gV tw_688 tw_690 tw_28 tw_46 tw_691) rfl rfl rfl (by decide +kernel) ⟨(Nat.le_of_ble_eq_true rfl), (Nat.le_of_ble_eq_true rfl)⟩) ⟨fun a U g mk q => by obtain ⟨q0, q1, qZ, qP, qK, qD⟩ := q; exact ⟨q0, q1, zz_call qZ, qP, va_K.moved (u := U) (U := U.calling g mk a) (Vm.Alike.refl U.vm) qK, qD⟩, va_recv hKc hPc (ci := 5) (q0 := 0) rfl rfl, fun U hU hW => ⟨rfl, by rw [hU], zz_rw hS hFc hU hW hZ, by rw [hU]; exact hPc, va_K.moved hW.alike hKc, hDc.weaken (fun _ _ _ _ => trivial)⟩⟩ rfl rfl hl.1 rfl (lv_room (Nat.le_of_ble_eq_true rfl)) d_M_reads_157 ⟨(Nat.le_of_ble_eq_true rfl), (Nat.le_of_ble_eq_true rfl)⟩) hS (fun q _ h => hFc q h) hFc (fun r_165 u t H1 locs ht hvm hw_166 hB hz1 hk1 hS => ?_)
                      obtain ⟨hP1, hK1, hD1⟩ := hB
                      rw [ht] at hP1
                      have hK1 := va_K.moved hvm.symm hK1
                      obtain rfl : r_165 = 0 := hw_166
                      obtain ⟨hP, hD⟩ := va_join (wr := [(a_sa, .inl (k_sa, 120, .inl f_sa)), (a_ru, .inl (k_ru, 410, .inl R))]) (w1 := [(a_m, .inr (5, [.int v_th, .ref a_sa, .int v_sz, .int x_90.2.1, .int x_90.2.1, .ref a_ru, .ref a_me, .ref a_le, .int v_n, .ref a_cl, .ref a_te, .ref a_ki, .ref a_ty, .ref a_bl, .ref a_ex, .ref a_lo, .int v_nl, .ref a_ho, .ref a_fi, .int v_nf, .ref a_cz, .int v_nc]))]) hP hD [0] [1, 2] rfl rfl (by decide) (by decide) hk1 hFc hP1 hD1
                      replace hK := (hK.sub (tys' := [(k_sa, .byte), (k_ru, .int)]) [0, 1] rfl).app hK1
                      generalize H1 = H at hP hS ⊢
                      replace hP := hP.sub (ws' := [(a_m, .inr (5, [.int v_th, .ref a_sa, .int v_sz, .int x_90.2.1, .int x_90.2.1, .ref a_ru, .ref a_me, .ref a_le, .int v_n, .ref a_cl, .ref a_te, .ref a_ki, .ref a_ty, .ref a_bl, .ref a_ex, .ref a_lo, .int v_nl, .ref a_ho, .ref a_fi, .int v_nf, .ref a_cz, .int v_nc])), (a_sa, .inl (k_sa, 120, .inl f_sa)), (a_ru, .inl (k_ru, 410, .inl R))]) [2, 0, 1] rfl
                      replace hD := hD.sub (ws' := [(a_m, .inr (5, [.int v_th, .ref a_sa, .int v_sz, .int x_90.2.1, .int x_90.2.1, .ref a_ru, .ref a_me, .ref a_le, .int v_n, .ref a_cl, .ref a_te, .ref a_ki, .ref a_ty, .ref a_bl, .ref a_ex, .ref a_lo, .int v_nl, .ref a_ho, .ref a_fi, .int v_nf, .ref a_cz, .int v_nc])), (a_sa, .inl (k_sa, 120, .inl f_sa)), (a_ru, .inl (k_ru, 410, .inl R))]) [2, 0, 1] (by decide) rfl
                      replace hK := hK.sub (tys' := [(k_sa, .byte), (k_ru, .int)]) [0, 1] rfl
                      have hP9 := hP.sub (ws' := [(a_m, .inr (5, [.int v_th, .ref a_sa, .int v_sz, .int x_90.2.1, .int x_90.2.1, .ref a_ru, .ref a_me, .ref a_le, .int v_n, .ref a_cl, .ref a_te, .ref a_ki, .ref a_ty, .ref a_bl, .ref a_ex, .ref a_lo, .int v_nl, .ref a_ho, .ref a_fi, .int v_nf, .ref a_cz, .int v_nc])), (a_sa, .inl (k_sa, 120, .inl f_sa)), (a_ru, .inl (k_ru, 410, .inl R))]) [0, 1, 2] rfl
                      have hD9 := hD.sub (ws' := [(a_m, .inr (5, [.int v_th, .ref a_sa, .int v_sz, .int x_90.2.1, .int x_90.2.1, .ref a_ru, .ref a_me, .ref a_le, .int v_n, .ref a_cl, .ref a_te, .ref a_ki, .ref a_ty, .ref a_bl, .ref a_ex, .ref a_lo, .int v_nl, .ref a_ho, .ref a_fi, .int v_nf, .ref a_cz, .int v_nc])), (a_sa, .inl (k_sa, 120, .inl f_sa)), (a_ru, .inl (k_ru, 410, .inl R))]) [0, 1, 2] (by decide) rfl
                      have hK9 := hK.sub (tys' := [(k_sa, .byte), (k_ru, .int)]) [0, 1] rfl
                      exact W.zret (v := 0) hx hb hr rfl (fun t ht hW => ⟨⟨0, (), rfl, by rw [← hz, hE], by rw [ht, ← hz, hE]; exact hP9, va_K.moved hW.alike hK9, by rw [← hz, hE]; exact hD9⟩, hS.F ht⟩) hS.2.2 d_M_reads_160
                    · rw [if_neg c_164] at hg_rd1
                      refine lv_iload_n hx hb d_M_reads_148 rfl (lv_at hl 0 rfl) ?_
                      refine lv_if_ne (tgt := 161) hx hb d_M_reads_149 (by decide) (fun c_167 => ?_) (fun c_167 => ?_)
                      · refine lv_aload_n hx hb d_M_reads_161 rfl (lv_at hl 3 rfl) ?_
                        have hPc := hP.sub (ws' := [(a_m, .inr (5, [.int v_th, .ref a_sa, .int v_sz, .int x_90.2.1, .int x_90.2.2, .ref a_ru, .ref a_me, .ref a_le, .int v_n, .ref a_cl, .ref a_te, .ref a_ki, .ref a_ty, .ref a_bl, .ref a_ex, .ref a_lo, .int v_nl, .ref a_ho, .ref a_fi, .int v_nf, .ref a_cz, .int v_nc])), (a_sa, .inl (k_sa, 120, .inl f_sa))]) [0, 1] rfl
                        have hKc := hK.sub (tys' := [(k_sa, .byte)]) [0] rfl
                        have hDc := hD.sub (ws' := [(a_m, .inr (5, [.int v_th, .ref a_sa, .int v_sz, .int x_90.2.1, .int x_90.2.2, .ref a_ru, .ref a_me, .ref a_le, .int v_n, .ref a_cl, .ref a_te, .ref a_ki, .ref a_ty, .ref a_bl, .ref a_ex, .ref a_lo, .int v_nl, .ref a_ho, .ref a_fi, .int v_nf, .ref a_cz, .int v_nc])), (a_sa, .inl (k_sa, 120, .inl f_sa))]) [0, 1] (by decide) rfl
                        have hFc := va_free (wc := [(a_m, .inr (5, [.int v_th, .ref a_sa, .int v_sz, .int x_90.2.1, .int x_90.2.2, .ref a_ru, .ref a_me, .ref a_le, .int v_n, .ref a_cl, .ref a_te, .ref a_ki, .ref a_ty, .ref a_bl, .ref a_ex, .ref a_lo, .int v_nl, .ref a_ho, .ref a_fi, .int v_nf, .ref a_cz, .int v_nc])), (a_sa, .inl (k_sa, 120, .inl f_sa))]) hD hS hA [0, 1] rfl
                        refine va_callv (va_runV (As := []) (rest := []) ⟨hx, hb, hml, hown, hts⟩ (c_Mg_pass l dC dI adK adV (a_m := a_m) (v_th := v_th) (a_sa := a_sa) (v_sz := v_sz) (v_at := x_90.2.1) (v_wr := x_90.2.2) (a_ru := a_ru) (a_me := a_me) (a_le := a_le) (v_n := v_n) (a_cl := a_cl) (a_te := a_te) (a_ki := a_ki) (a_ty := a_ty) (a_bl := a_bl) (a_ex := a_ex) (a_lo := a_lo) (v_nl := v_nl) (a_ho := a_ho) (a_fi := a_fi) (v_nf := v_nf) (a_cz := a_cz) (v_nc := v_nc) (k_sa := k_sa) (f_sa := f_sa) (sz := H.size) hsz (hg_x_90 ▸ space_at hsz ha)) (cwV 0 hts (gV tw_712 tw_714 tw_30 tw_46 tw_715) rfl rfl rfl (by decide +kernel) ⟨(Nat.le_of_ble_eq_true rfl), (Nat.le_of_ble_eq_true rfl)⟩) ⟨fun a U g mk q => by obtain ⟨q0, q1, qZ, qP, qK, qD⟩ := q; exact ⟨q0, q1, zz_call qZ, qP, va_K.moved (u := U) (U := U.calling g mk a) (Vm.Alike.refl U.vm) qK, qD⟩, va_recv hKc hPc (ci := 5) (q0 := 0) rfl rfl, fun U hU hW => ⟨rfl, by rw [hU], zz_rw hS hFc hU hW hZ, by rw [hU]; exact hPc, va_K.moved hW.alike hKc, hDc.weaken (fun _ _ _ _ => trivial)⟩⟩ rfl rfl hl.1 rfl (lv_room (Nat.le_of_ble_eq_true rfl)) d_M_reads_162 ⟨(Nat.le_of_ble_eq_true rfl), (Nat.le_of_ble_eq_true rfl)⟩) hS (fun q _ h => hFc q h) hFc (fun u t H1 locs ht hvm hw_168 hB hz1 hk1 hS => ?_)
                        generalize hg_x_169 : g_Mg_pass v_sz x_90.2.1 f_sa = x_169 at hw_168 hB hg_rd1
                        rw [bv_eq] at hg_rd1
                        obtain ⟨hP1, hK1, hD1⟩ := hB
                        rw [ht] at hP1
                        have hK1 := va_K.moved hvm.symm hK1
                        obtain ⟨hP, hD⟩ := va_join (wr := [(a_ru, .inl (k_ru, 410, .inl R))]) (w1 := [(a_m, .inr (5, [.int v_th, .ref a_sa, .int v_sz, .int x_169, .int x_90.2.2, .ref a_ru, .ref a_me, .ref a_le, .int v_n, .ref a_cl, .ref a_te, .ref a_ki, .ref a_ty, .ref a_bl, .ref a_ex, .ref a_lo, .int v_nl, .ref a_ho, .ref a_fi, .int v_nf, .ref a_cz, .int v_nc])), (a_sa, .inl (k_sa, 120, .inl f_sa))]) hP hD [0, 1] [2] rfl rfl (by decide) (by decide) hk1 hFc hP1 hD1
                        replace hK := (hK.sub (tys' := [(k_ru, .int)]) [1] rfl).app hK1
                        generalize H1 = H at hP hS ⊢
                        replace hP := hP.sub (ws' := [(a_m, .inr (5, [.int v_th, .ref a_sa, .int v_sz, .int x_169, .int x_90.2.2, .ref a_ru, .ref a_me, .ref a_le, .int v_n, .ref a_cl, .ref a_te, .ref a_ki, .ref a_ty, .ref a_bl, .ref a_ex, .ref a_lo, .int v_nl, .ref a_ho, .ref a_fi, .int v_nf, .ref a_cz, .int v_nc])), (a_sa, .inl (k_sa, 120, .inl f_sa)), (a_ru, .inl (k_ru, 410, .inl R))]) [1, 2, 0] rfl
                        replace hD := hD.sub (ws' := [(a_m, .inr (5, [.int v_th, .ref a_sa, .int v_sz, .int x_169, .int x_90.2.2, .ref a_ru, .ref a_me, .ref a_le, .int v_n, .ref a_cl, .ref a_te, .ref a_ki, .ref a_ty, .ref a_bl, .ref a_ex, .ref a_lo, .int v_nl, .ref a_ho, .ref a_fi, .int v_nf, .ref a_cz, .int v_nc])), (a_sa, .inl (k_sa, 120, .inl f_sa)), (a_ru, .inl (k_ru, 410, .inl R))]) [1, 2, 0] (by decide) rfl
                        replace hK := hK.sub (tys' := [(k_sa, .byte), (k_ru, .int)]) [1, 0] rfl
                        refine lv_aload_n hx hb d_M_reads_165 rfl (lv_at hl 3 rfl) ?_
                        refine lv_iload_n hx hb d_M_reads_166 rfl (lv_at hl 1 rfl) ?_
                        have hPc := hP.sub (ws' := [(a_m, .inr (5, [.int v_th, .ref a_sa, .int v_sz, .int x_169, .int x_90.2.2, .ref a_ru, .ref a_me, .ref a_le, .int v_n, .ref a_cl, .ref a_te, .ref a_ki, .ref a_ty, .ref a_bl, .ref a_ex, .ref a_lo, .int v_nl, .ref a_ho, .ref a_fi, .int v_nf, .ref a_cz, .int v_nc])), (a_sa, .inl (k_sa, 120, .inl f_sa)), (a_ru, .inl (k_ru, 410, .inl R))]) [0, 1, 2] rfl
                        have hKc := hK.sub (tys' := [(k_sa, .byte), (k_ru, .int)]) [0, 1] rfl
                        have hDc := hD.sub (ws' := [(a_m, .inr (5, [.int v_th, .ref a_sa, .int v_sz, .int x_169, .int x_90.2.2, .ref a_ru, .ref a_me, .ref a_le, .int v_n, .ref a_cl, .ref a_te, .ref a_ki, .ref a_ty, .ref a_bl, .ref a_ex, .ref a_lo, .int v_nl, .ref a_ho, .ref a_fi, .int v_nf, .ref a_cz, .int v_nc])), (a_sa, .inl (k_sa, 120, .inl f_sa)), (a_ru, .inl (k_ru, 410, .inl R))]) [0, 1, 2] (by decide) rfl
                        have hFc := va_free (wc := [(a_m, .inr (5, [.int v_th, .ref a_sa, .int v_sz, .int x_169, .int x_90.2.2, .ref a_ru, .ref a_me, .ref a_le, .int v_n, .ref a_cl, .ref a_te, .ref a_ki, .ref a_ty, .ref a_bl, .ref a_ex, .ref a_lo, .int v_nl, .ref a_ho, .ref a_fi, .int v_nf, .ref a_cz, .int v_nc])), (a_sa, .inl (k_sa, 120, .inl f_sa)), (a_ru, .inl (k_ru, 410, .inl R))]) hD hS hA [0, 1, 2] rfl
                        refine va_calli (va_runV (As := [.int (g_Mg_step (g_Mg_word v_sz x_90.2.1 f_sa))]) (rest := []) ⟨hx, hb, hml, hown, hts⟩ (c_Mg_one l dC dI adK adV (a_m := a_m) (p0 := g_Mg_step (g_Mg_word v_sz x_90.2.1 f_sa)) (v_th := v_th) (a_sa := a_sa) (v_sz := v_sz) (v_at := x_169) (v_wr := x_90.2.2) (a_ru := a_ru) (a_me := a_me) (a_le := a_le) (v_n := v_n) (a_cl := a_cl) (a_te := a_te) (a_ki := a_ki) (a_ty := a_ty) (a_bl := a_bl) (a_ex := a_ex) (a_lo := a_lo) (v_nl := v_nl) (a_ho := a_ho) (a_fi := a_fi) (v_nf := v_nf) (a_cz := a_cz) (v_nc := v_nc) (k_sa := k_sa) (f_sa := f_sa) (k_ru := k_ru) (f_ru := R) (sz := H.size) hsz (hg_x_169 ▸ pass_at hsz (hg_x_90 ▸ space_at hsz ha)) hn) (cwV 1 hts (gV tw_716 tw_718 tw_31 tw_46 tw_719) rfl rfl rfl (by decide +kernel) ⟨(Nat.le_of_ble_eq_true rfl), (Nat.le_of_ble_eq_true rfl)⟩) ⟨fun a U g mk q => by obtain ⟨q0, q1, qZ, qP, qK, qD⟩ := q; exact ⟨q0, q1, zz_call qZ, qP, va_K.moved (u := U) (U := U.calling g mk a) (Vm.Alike.refl U.vm) qK, qD⟩, va_recv hKc hPc (ci := 5) (q0 := 0) rfl rfl, fun U hU hW => ⟨rfl, by rw [hU], zz_rw hS hFc hU hW hZ, by rw [hU]; exact hPc, va_K.moved hW.alike hKc, hDc.weaken (fun _ _ _ _ => trivial)⟩⟩ rfl rfl hl.1 rfl (lv_room (Nat.le_of_ble_eq_true rfl)) d_M_reads_167 ⟨(Nat.le_of_ble_eq_true rfl), (Nat.le_of_ble_eq_true rfl)⟩) hS (fun q _ h => hFc q h) hFc (fun r_170 u t H1 locs ht hvm hw_171 hB hz1 hk1 hS => ?_)
                        generalize hg_x_172 : g_Mg_one (g_Mg_step (g_Mg_word v_sz x_90.2.1 f_sa)) v_sz x_169 x_90.2.2 v_n f_sa R = x_172 at hw_171 hB hg_rd1
                        rw [bv_eq] at hg_rd1
                        obtain ⟨hP1, hK1, hD1⟩ := hB
                        rw [ht] at hP1
                        have hK1 := va_K.moved hvm.symm hK1
                        obtain rfl : r_170 = x_172.1 := hw_171
                        obtain ⟨hP, hD⟩ := va_join (wr := []) (w1 := [(a_m, .inr (5, [.int v_th, .ref a_sa, .int v_sz, .int x_172.2.1, .int x_172.2.2.1, .ref a_ru, .ref a_me, .ref a_le, .int v_n, .ref a_cl, .ref a_te, .ref a_ki, .ref a_ty, .ref a_bl, .ref a_ex, .ref a_lo, .int v_nl, .ref a_ho, .ref a_fi, .int v_nf, .ref a_cz, .int v_nc])), (a_sa, .inl (k_sa, 120, .inl f_sa)), (a_ru, .inl (k_ru, 410, .inl x_172.2.2.2))]) hP hD [0, 1, 2] [] rfl rfl (by decide) (by decide) hk1 hFc hP1 hD1
                        replace hK := (hK.sub (tys' := []) [] rfl).app hK1
                        generalize H1 = H at hP hS ⊢
                        replace hP := hP.sub (ws' := [(a_m, .inr (5, [.int v_th, .ref a_sa, .int v_sz, .int x_172.2.1, .int x_172.2.2.1, .ref a_ru, .ref a_me, .ref a_le, .int v_n, .ref a_cl, .ref a_te, .ref a_ki, .ref a_ty, .ref a_bl, .ref a_ex, .ref a_lo, .int v_nl, .ref a_ho, .ref a_fi, .int v_nf, .ref a_cz, .int v_nc])), (a_sa, .inl (k_sa, 120, .inl f_sa)), (a_ru, .inl (k_ru, 410, .inl x_172.2.2.2))]) [0, 1, 2] rfl
                        replace hD := hD.sub (ws' := [(a_m, .inr (5, [.int v_th, .ref a_sa, .int v_sz, .int x_172.2.1, .int x_172.2.2.1, .ref a_ru, .ref a_me, .ref a_le, .int v_n, .ref a_cl, .ref a_te, .ref a_ki, .ref a_ty, .ref a_bl, .ref a_ex, .ref a_lo, .int v_nl, .ref a_ho, .ref a_fi, .int v_nf, .ref a_cz, .int v_nc])), (a_sa, .inl (k_sa, 120, .inl f_sa)), (a_ru, .inl (k_ru, 410, .inl x_172.2.2.2))]) [0, 1, 2] (by decide) rfl
                        replace hK := hK.sub (tys' := [(k_sa, .byte), (k_ru, .int)]) [0, 1] rfl
                        refine lv_if_ne (tgt := 175) hx hb d_M_reads_170 (by decide) (fun c_173 => ?_) (fun c_173 => ?_)
                        · rw [if_neg c_173] at hg_rd1
                          refine lv_iload_n hx hb d_M_reads_175 rfl (lv_at hl 1 rfl) ?_
                          refine lv_istore_n (lv' := [(1, .int (g_Mg_step (g_Mg_word v_sz x_90.2.1 f_sa))), (3, .int 1), (2, .int (g_Mg_step (g_Mg_word v_sz x_90.2.1 f_sa))), (0, .ref a_m)]) hx hb d_M_reads_176 rfl hl (by decide) rfl (fun ls hl => ?_)
                          refine lv_goto (tgt := 56) hx hb d_M_reads_177 (by decide) ?_
                          exact ih_rd1 _ _ _ _ _ _ _ ⟨hP, hD, hS, lv_sub hl [0, 3] rfl, ((hg_x_172 ▸ one_at hsz (hg_x_169 ▸ pass_at hsz (hg_x_90 ▸ space_at hsz ha)))), (step_le _), (li_mt hla c_96 (step_le _) hm_rd1), hg_rd1⟩
                        · rw [if_pos c_173] at hg_rd1
                          subst hg_rd1
                          dsimp only at hE
                          rw [if_neg (by decide)] at hE
                          rw [if_neg (by decide)] at hE
                          rw [if_neg (by decide)] at hE
                          refine lv_iconst (v := 0) hx hb d_M_reads_173 (by decide) ?_
                          have hP9 := hP.sub (ws' := [(a_m, .inr (5, [.int v_th, .ref a_sa, .int v_sz, .int x_172.2.1, .int x_172.2.2.1, .ref a_ru, .ref a_me, .ref a_le, .int v_n, .ref a_cl, .ref a_te, .ref a_ki, .ref a_ty, .ref a_bl, .ref a_ex, .ref a_lo, .int v_nl, .ref a_ho, .ref a_fi, .int v_nf, .ref a_cz, .int v_nc])), (a_sa, .inl (k_sa, 120, .inl f_sa)), (a_ru, .inl (k_ru, 410, .inl x_172.2.2.2))]) [0, 1, 2] rfl
                          have hD9 := hD.sub (ws' := [(a_m, .inr (5, [.int v_th, .ref a_sa, .int v_sz, .int x_172.2.1, .int x_172.2.2.1, .ref a_ru, .ref a_me, .ref a_le, .int v_n, .ref a_cl, .ref a_te, .ref a_ki, .ref a_ty, .ref a_bl, .ref a_ex, .ref a_lo, .int v_nl, .ref a_ho, .ref a_fi, .int v_nf, .ref a_cz, .int v_nc])), (a_sa, .inl (k_sa, 120, .inl f_sa)), (a_ru, .inl (k_ru, 410, .inl x_172.2.2.2))]) [0, 1, 2] (by decide) rfl
                          have hK9 := hK.sub (tys' := [(k_sa, .byte), (k_ru, .int)]) [0, 1] rfl
                          exact W.zret (v := 0) hx hb hr rfl (fun t ht hW => ⟨⟨0, (), rfl, by rw [← hz, hE], by rw [ht, ← hz, hE]; exact hP9, va_K.moved hW.alike hK9, by rw [← hz, hE]; exact hD9⟩, hS.F ht⟩) hS.2.2 d_M_reads_174
                      · exact absurd c_167 (by decide)
            · rw [if_pos c_91] at hg_rd1
              subst hg_rd1
              dsimp only at hE
              rw [if_neg (by decide)] at hE
              rw [if_pos rfl] at hE
              refine lv_iconst (v := 0) hx hb d_M_reads_83 (by decide) ?_
              have hP9 := hP.sub (ws' := [(a_m, .inr (5, [.int v_th, .ref a_sa, .int v_sz, .int x_90.2.1, .int x_90.2.2, .ref a_ru, .ref a_me, .ref a_le, .int v_n, .ref a_cl, .ref a_te, .ref a_ki, .ref a_ty, .ref a_bl, .ref a_ex, .ref a_lo, .int v_nl, .ref a_ho, .ref a_fi, .int v_nf, .ref a_cz, .int v_nc])), (a_sa, .inl (k_sa, 120, .inl f_sa)), (a_ru, .inl (k_ru, 410, .inl R))]) [0, 1, 2] rfl
              have hD9 := hD.sub (ws' := [(a_m, .inr (5, [.int v_th, .ref a_sa, .int v_sz, .int x_90.2.1, .int x_90.2.2, .ref a_ru, .ref a_me, .ref a_le, .int v_n, .ref a_cl, .ref a_te, .ref a_ki, .ref a_ty, .ref a_bl, .ref a_ex, .ref a_lo, .int v_nl, .ref a_ho, .ref a_fi, .int v_nf, .ref a_cz, .int v_nc])), (a_sa, .inl (k_sa, 120, .inl f_sa)), (a_ru, .inl (k_ru, 410, .inl R))]) [0, 1, 2] (by decide) rfl
              have hK9 := hK.sub (tys' := [(k_sa, .byte), (k_ru, .int)]) [0, 1] rfl
              exact W.zret (v := 0) hx hb hr rfl (fun t ht hW => ⟨⟨0, (), rfl, by rw [← hz, hE], by rw [ht, ← hz, hE]; exact hP9, va_K.moved hW.alike hK9, by rw [← hz, hE]; exact hD9⟩, hS.F ht⟩) hS.2.2 d_M_reads_84
        · rw [if_neg c_4] at hg_rd1
          refine lv_iload_n hx hb d_M_reads_67 rfl (lv_at hl 0 rfl) ?_
          refine lv_iconst (v := 4) hx hb d_M_reads_68 (by decide) ?_
          refine lv_icmp_ge (tgt := 180) hx hb d_M_reads_69 (by decide) (fun c_174 => ?_) (fun c_174 => ?_)
          · rw [if_pos c_174] at hg_rd1
            subst hg_rd1
            dsimp only at hE
            rw [if_pos rfl] at hE
            refine lv_iconst (v := 1) hx hb d_M_reads_180 (by decide) ?_
            have hP9 := hP.sub (ws' := [(a_m, .inr (5, [.int v_th, .ref a_sa, .int v_sz, .int a, .int wr, .ref a_ru, .ref a_me, .ref a_le, .int v_n, .ref a_cl, .ref a_te, .ref a_ki, .ref a_ty, .ref a_bl, .ref a_ex, .ref a_lo, .int v_nl, .ref a_ho, .ref a_fi, .int v_nf, .ref a_cz, .int v_nc])), (a_sa, .inl (k_sa, 120, .inl f_sa)), (a_ru, .inl (k_ru, 410, .inl R))]) [0, 1, 2] rfl
            have hD9 := hD.sub (ws' := [(a_m, .inr (5, [.int v_th, .ref a_sa, .int v_sz, .int a, .int wr, .ref a_ru, .ref a_me, .ref a_le, .int v_n, .ref a_cl, .ref a_te, .ref a_ki, .ref a_ty, .ref a_bl, .ref a_ex, .ref a_lo, .int v_nl, .ref a_ho, .ref a_fi, .int v_nf, .ref a_cz, .int v_nc])), (a_sa, .inl (k_sa, 120, .inl f_sa)), (a_ru, .inl (k_ru, 410, .inl R))]) [0, 1, 2] (by decide) rfl
            have hK9 := hK.sub (tys' := [(k_sa, .byte), (k_ru, .int)]) [0, 1] rfl
            exact W.zret (v := 1) hx hb hr rfl (fun t ht hW => ⟨⟨1, (), rfl, by rw [← hz, hE], by rw [ht, ← hz, hE]; exact hP9, va_K.moved hW.alike hK9, by rw [← hz, hE]; exact hD9⟩, hS.F ht⟩) hS.2.2 d_M_reads_181
          · rw [if_neg c_174] at hg_rd1
            refine lv_iload_n hx hb d_M_reads_72 rfl (lv_at hl 0 rfl) ?_
            refine lv_if_le (tgt := 85) hx hb d_M_reads_73 (by decide) (fun c_175 => ?_) (fun c_175 => ?_)
            · rw [if_pos c_175] at hg_rd1
              refine lv_aload_n hx hb d_M_reads_85 rfl (lv_at hl 1 rfl) ?_
              have hPc := hP.sub (ws' := [(a_m, .inr (5, [.int v_th, .ref a_sa, .int v_sz, .int a, .int wr, .ref a_ru, .ref a_me, .ref a_le, .int v_n, .ref a_cl, .ref a_te, .ref a_ki, .ref a_ty, .ref a_bl, .ref a_ex, .ref a_lo, .int v_nl, .ref a_ho, .ref a_fi, .int v_nf, .ref a_cz, .int v_nc])), (a_sa, .inl (k_sa, 120, .inl f_sa))]) [0, 1] rfl
              have hKc := hK.sub (tys' := [(k_sa, .byte)]) [0] rfl
              refine vp_callSl (va_Run.run (va_runV (As := []) (rest := []) ⟨hx, hb, hml, hown, hts⟩ (c_Mg_word l dC dI adK adV (a_m := a_m) (v_th := v_th) (a_sa := a_sa) (v_sz := v_sz) (v_at := a) (v_wr := wr) (a_ru := a_ru) (a_me := a_me) (a_le := a_le) (v_n := v_n) (a_cl := a_cl) (a_te := a_te) (a_ki := a_ki) (a_ty := a_ty) (a_bl := a_bl) (a_ex := a_ex) (a_lo := a_lo) (v_nl := v_nl) (a_ho := a_ho) (a_fi := a_fi) (v_nf := v_nf) (a_cz := a_cz) (v_nc := v_nc) (k_sa := k_sa) (f_sa := f_sa) hsz ha) (cwV 0 hts (gV tw_692 tw_694 tw_29 tw_46 tw_695) rfl rfl rfl (by decide +kernel) ⟨(Nat.le_of_ble_eq_true rfl), (Nat.le_of_ble_eq_true rfl)⟩) ⟨fun a U g mk q => by obtain ⟨q0, qZ, qP, qK⟩ := q; exact ⟨q0, zz_call qZ, qP, va_K.moved (u := U) (U := U.calling g mk a) (Vm.Alike.refl U.vm) qK⟩, va_recv hKc hPc (ci := 5) (q0 := 0) rfl rfl, fun U hU hW => ⟨rfl, zz_ro hS hU hW hZ, by rw [hU]; exact hPc, va_K.moved hW.alike hKc⟩⟩ rfl rfl hl.1 rfl (lv_room (Nat.le_of_ble_eq_true rfl)) d_M_reads_86 ⟨(Nat.le_of_ble_eq_true rfl), (Nat.le_of_ble_eq_true rfl)⟩)) (fun r_176 hw_177 => ?_)
              clear hPc hKc
              subst hw_177
              have hPc := hP.sub (ws' := []) [] rfl
              have hKc := hK.sub (tys' := []) [] rfl
              refine vp_callSi (va_Run.run (va_runS (As := [.long (g_Mg_word v_sz a f_sa)]) (rest := []) ⟨hx, hb, hml, hown, hts⟩ (c_Mg_step l dC dI adK adV (p0 := g_Mg_word v_sz a f_sa)) (va_cwS 1 hts (gS tw_699 tw_700 tw_46 tw_701) rfl rfl rfl (by decide +kernel) ⟨(Nat.le_of_ble_eq_true rfl), (Nat.le_of_ble_eq_true rfl)⟩) ⟨fun a U g mk q => by obtain ⟨q0, qZ, qP, qK⟩ := q; exact ⟨q0, zz_call qZ, qP, va_K.moved (u := U) (U := U.calling g mk a) (Vm.Alike.refl U.vm) qK⟩, fun U hU hW => ⟨rfl, zz_ro hS hU hW hZ, by rw [hU]; exact hPc, va_K.moved hW.alike hKc⟩⟩ rfl rfl hl.1 rfl (lv_room (Nat.le_of_ble_eq_true rfl)) d_M_reads_89 ⟨(Nat.le_of_ble_eq_true rfl), (Nat.le_of_ble_eq_true rfl)⟩)) (fun r_178 hw_179 => ?_)
              clear hPc hKc
              subst hw_179
              refine lv_istore_n (lv' := [(2, .int (g_Mg_step (g_Mg_word v_sz a f_sa))), (1, .int la), (0, .ref a_m)]) hx hb d_M_reads_92 rfl hl (by decide) rfl (fun ls hl => ?_)
              refine lv_iload_n hx hb d_M_reads_93 rfl (lv_at hl 0 rfl) ?_
              refine lv_iload_n hx hb d_M_reads_94 rfl (lv_at hl 1 rfl) ?_
              refine lv_icmp_le (tgt := 142) hx hb d_M_reads_95 (by decide) (fun c_180 => ?_) (fun c_180 => ?_)
              · rw [if_pos c_180] at hg_rd1
                refine lv_iconst (v := 0) hx hb d_M_reads_142 (by decide) ?_
                refine lv_istore_n (lv' := [(3, .int 0), (2, .int (g_Mg_step (g_Mg_word v_sz a f_sa))), (1, .int la), (0, .ref a_m)]) hx hb d_M_reads_143 rfl hl (by decide) rfl (fun ls hl => ?_)
                refine lv_iload_n hx hb d_M_reads_144 rfl (lv_at hl 1 rfl) ?_
                refine lv_if_eq (tgt := 152) hx hb d_M_reads_145 (by decide) (fun c_181 => ?_) (fun c_181 => ?_)
                · subst hg_rd1
                  dsimp only at hE
                  rw [if_neg (by decide)] at hE
                  rw [if_neg (by decide)] at hE
                  rw [if_pos rfl] at hE
                  refine lv_aload_n hx hb d_M_reads_152 rfl (lv_at hl 3 rfl) ?_
                  refine lv_aload_n hx hb d_M_reads_153 rfl (lv_at hl 3 rfl) ?_
                  refine va_get (D := (dC, dI)) (ci := 5) (v := .int a) (C := "LoanRulesModel") (T := Fz_M) (N := 22) hx hb hts it_M hown hK hP 0 rfl rfl 3 (by decide) (hts _ tw_604) (fun _ h9 => h9) rfl d_M_reads_154 ?_
                  have hPc := hP.sub (ws' := [(a_m, .inr (5, [.int v_th, .ref a_sa, .int v_sz, .int a, .int wr, .ref a_ru, .ref a_me, .ref a_le, .int v_n, .ref a_cl, .ref a_te, .ref a_ki, .ref a_ty, .ref a_bl, .ref a_ex, .ref a_lo, .int v_nl, .ref a_ho, .ref a_fi, .int v_nf, .ref a_cz, .int v_nc]))]) [0] rfl
                  have hKc := hK.sub (tys' := []) [] rfl
                  have hDc := hD.sub (ws' := [(a_m, .inr (5, [.int v_th, .ref a_sa, .int v_sz, .int a, .int wr, .ref a_ru, .ref a_me, .ref a_le, .int v_n, .ref a_cl, .ref a_te, .ref a_ki, .ref a_ty, .ref a_bl, .ref a_ex, .ref a_lo, .int v_nl, .ref a_ho, .ref a_fi, .int v_nf, .ref a_cz, .int v_nc]))]) [0] (by decide) rfl
                  have hFc := va_free (wc := [(a_m, .inr (5, [.int v_th, .ref a_sa, .int v_sz, .int a, .int wr, .ref a_ru, .ref a_me, .ref a_le, .int v_n, .ref a_cl, .ref a_te, .ref a_ki, .ref a_ty, .ref a_bl, .ref a_ex, .ref a_lo, .int v_nl, .ref a_ho, .ref a_fi, .int v_nf, .ref a_cz, .int v_nc]))]) hD hS hA [0] rfl
                  refine va_calli (va_runV (As := [.int a]) (rest := []) ⟨hx, hb, hml, hown, hts⟩ (c_Mg_bad l dC dI adK adV (a_m := a_m) (p0 := a) (v_th := v_th) (a_sa := a_sa) (v_sz := v_sz) (v_at := a) (v_wr := wr) (a_ru := a_ru) (a_me := a_me) (a_le := a_le) (v_n := v_n) (a_cl := a_cl) (a_te := a_te) (a_ki := a_ki) (a_ty := a_ty) (a_bl := a_bl) (a_ex := a_ex) (a_lo := a_lo) (v_nl := v_nl) (a_ho := a_ho) (a_fi := a_fi) (v_nf := v_nf) (a_cz := a_cz) (v_nc := v_nc) (sz := H.size)) (cwV 1 hts (gV tw_688 tw_690 tw_28 tw_46 tw_691) rfl rfl rfl (by decide +kernel) ⟨(Nat.le_of_ble_eq_true rfl), (Nat.le_of_ble_eq_true rfl)⟩) ⟨fun a U g mk q => by obtain ⟨q0, q1, qZ, qP, qK, qD⟩ := q; exact ⟨q0, q1, zz_call qZ, qP, va_K.moved (u := U) (U := U.calling g mk a) (Vm.Alike.refl U.vm) qK, qD⟩, va_recv hKc hPc (ci := 5) (q0 := 0) rfl rfl, fun U hU hW => ⟨rfl, by rw [hU], zz_rw hS hFc hU hW hZ, by rw [hU]; exact hPc, va_K.moved hW.alike hKc, hDc.weaken (fun _ _ _ _ => trivial)⟩⟩ rfl rfl hl.1 rfl (lv_room (Nat.le_of_ble_eq_true rfl)) d_M_reads_157 ⟨(Nat.le_of_ble_eq_true rfl), (Nat.le_of_ble_eq_true rfl)⟩) hS (fun q _ h => hFc q h) hFc (fun r_182 u t H1 locs ht hvm hw_183 hB hz1 hk1 hS => ?_)
                  obtain ⟨hP1, hK1, hD1⟩ := hB
                  rw [ht] at hP1
                  have hK1 := va_K.moved hvm.symm hK1
                  obtain rfl : r_182 = 0 := hw_183
                  obtain ⟨hP, hD⟩ := va_join (wr := [(a_sa, .inl (k_sa, 120, .inl f_sa)), (a_ru, .inl (k_ru, 410, .inl R))]) (w1 := [(a_m, .inr (5, [.int v_th, .ref a_sa, .int v_sz, .int a, .int a, .ref a_ru, .ref a_me, .ref a_le, .int v_n, .ref a_cl, .ref a_te, .ref a_ki, .ref a_ty, .ref a_bl, .ref a_ex, .ref a_lo, .int v_nl, .ref a_ho, .ref a_fi, .int v_nf, .ref a_cz, .int v_nc]))]) hP hD [0] [1, 2] rfl rfl (by decide) (by decide) hk1 hFc hP1 hD1
                  replace hK := (hK.sub (tys' := [(k_sa, .byte), (k_ru, .int)]) [0, 1] rfl).app hK1
                  generalize H1 = H at hP hS ⊢
                  replace hP := hP.sub (ws' := [(a_m, .inr (5, [.int v_th, .ref a_sa, .int v_sz, .int a, .int a, .ref a_ru, .ref a_me, .ref a_le, .int v_n, .ref a_cl, .ref a_te, .ref a_ki, .ref a_ty, .ref a_bl, .ref a_ex, .ref a_lo, .int v_nl, .ref a_ho, .ref a_fi, .int v_nf, .ref a_cz, .int v_nc])), (a_sa, .inl (k_sa, 120, .inl f_sa)), (a_ru, .inl (k_ru, 410, .inl R))]) [2, 0, 1] rfl
                  replace hD := hD.sub (ws' := [(a_m, .inr (5, [.int v_th, .ref a_sa, .int v_sz, .int a, .int a, .ref a_ru, .ref a_me, .ref a_le, .int v_n, .ref a_cl, .ref a_te, .ref a_ki, .ref a_ty, .ref a_bl, .ref a_ex, .ref a_lo, .int v_nl, .ref a_ho, .ref a_fi, .int v_nf, .ref a_cz, .int v_nc])), (a_sa, .inl (k_sa, 120, .inl f_sa)), (a_ru, .inl (k_ru, 410, .inl R))]) [2, 0, 1] (by decide) rfl
                  replace hK := hK.sub (tys' := [(k_sa, .byte), (k_ru, .int)]) [0, 1] rfl
                  have hP9 := hP.sub (ws' := [(a_m, .inr (5, [.int v_th, .ref a_sa, .int v_sz, .int a, .int a, .ref a_ru, .ref a_me, .ref a_le, .int v_n, .ref a_cl, .ref a_te, .ref a_ki, .ref a_ty, .ref a_bl, .ref a_ex, .ref a_lo, .int v_nl, .ref a_ho, .ref a_fi, .int v_nf, .ref a_cz, .int v_nc])), (a_sa, .inl (k_sa, 120, .inl f_sa)), (a_ru, .inl (k_ru, 410, .inl R))]) [0, 1, 2] rfl
                  have hD9 := hD.sub (ws' := [(a_m, .inr (5, [.int v_th, .ref a_sa, .int v_sz, .int a, .int a, .ref a_ru, .ref a_me, .ref a_le, .int v_n, .ref a_cl, .ref a_te, .ref a_ki, .ref a_ty, .ref a_bl, .ref a_ex, .ref a_lo, .int v_nl, .ref a_ho, .ref a_fi, .int v_nf, .ref a_cz, .int v_nc])), (a_sa, .inl (k_sa, 120, .inl f_sa)), (a_ru, .inl (k_ru, 410, .inl R))]) [0, 1, 2] (by decide) rfl
                  have hK9 := hK.sub (tys' := [(k_sa, .byte), (k_ru, .int)]) [0, 1] rfl
                  exact W.zret (v := 0) hx hb hr rfl (fun t ht hW => ⟨⟨0, (), rfl, by rw [← hz, hE], by rw [ht, ← hz, hE]; exact hP9, va_K.moved hW.alike hK9, by rw [← hz, hE]; exact hD9⟩, hS.F ht⟩) hS.2.2 d_M_reads_160
                · refine lv_iload_n hx hb d_M_reads_148 rfl (lv_at hl 0 rfl) ?_
                  refine lv_if_ne (tgt := 161) hx hb d_M_reads_149 (by decide) (fun c_184 => ?_) (fun c_184 => ?_)
                  · exact absurd (by decide) c_184
                  · subst hg_rd1
                    dsimp only at hE
                    rw [if_neg (by decide)] at hE
                    rw [if_neg (by decide)] at hE
                    rw [if_pos rfl] at hE
                    refine lv_aload_n hx hb d_M_reads_152 rfl (lv_at hl 3 rfl) ?_
                    refine lv_aload_n hx hb d_M_reads_153 rfl (lv_at hl 3 rfl) ?_
                    refine va_get (D := (dC, dI)) (ci := 5) (v := .int a) (C := "LoanRulesModel") (T := Fz_M) (N := 22) hx hb hts it_M hown hK hP 0 rfl rfl 3 (by decide) (hts _ tw_604) (fun _ h9 => h9) rfl d_M_reads_154 ?_
                    have hPc := hP.sub (ws' := [(a_m, .inr (5, [.int v_th, .ref a_sa, .int v_sz, .int a, .int wr, .ref a_ru, .ref a_me, .ref a_le, .int v_n, .ref a_cl, .ref a_te, .ref a_ki, .ref a_ty, .ref a_bl, .ref a_ex, .ref a_lo, .int v_nl, .ref a_ho, .ref a_fi, .int v_nf, .ref a_cz, .int v_nc]))]) [0] rfl
                    have hKc := hK.sub (tys' := []) [] rfl
                    have hDc := hD.sub (ws' := [(a_m, .inr (5, [.int v_th, .ref a_sa, .int v_sz, .int a, .int wr, .ref a_ru, .ref a_me, .ref a_le, .int v_n, .ref a_cl, .ref a_te, .ref a_ki, .ref a_ty, .ref a_bl, .ref a_ex, .ref a_lo, .int v_nl, .ref a_ho, .ref a_fi, .int v_nf, .ref a_cz, .int v_nc]))]) [0] (by decide) rfl
                    have hFc := va_free (wc := [(a_m, .inr (5, [.int v_th, .ref a_sa, .int v_sz, .int a, .int wr, .ref a_ru, .ref a_me, .ref a_le, .int v_n, .ref a_cl, .ref a_te, .ref a_ki, .ref a_ty, .ref a_bl, .ref a_ex, .ref a_lo, .int v_nl, .ref a_ho, .ref a_fi, .int v_nf, .ref a_cz, .int v_nc]))]) hD hS hA [0] rfl
                    refine va_calli (va_runV (As := [.int a]) (rest := []) ⟨hx, hb, hml, hown, hts⟩ (c_Mg_bad l dC dI adK adV (a_m := a_m) (p0 := a) (v_th := v_th) (a_sa := a_sa) (v_sz := v_sz) (v_at := a) (v_wr := wr) (a_ru := a_ru) (a_me := a_me) (a_le := a_le) (v_n := v_n) (a_cl := a_cl) (a_te := a_te) (a_ki := a_ki) (a_ty := a_ty) (a_bl := a_bl) (a_ex := a_ex) (a_lo := a_lo) (v_nl := v_nl) (a_ho := a_ho) (a_fi := a_fi) (v_nf := v_nf) (a_cz := a_cz) (v_nc := v_nc) (sz := H.size)) (cwV 1 hts (gV tw_688 tw_690 tw_28 tw_46 tw_691) rfl rfl rfl (by decide +kernel) ⟨(Nat.le_of_ble_eq_true rfl), (Nat.le_of_ble_eq_true rfl)⟩) ⟨fun a U g mk q => by obtain ⟨q0, q1, qZ, qP, qK, qD⟩ := q; exact ⟨q0, q1, zz_call qZ, qP, va_K.moved (u := U) (U := U.calling g mk a) (Vm.Alike.refl U.vm) qK, qD⟩, va_recv hKc hPc (ci := 5) (q0 := 0) rfl rfl, fun U hU hW => ⟨rfl, by rw [hU], zz_rw hS hFc hU hW hZ, by rw [hU]; exact hPc, va_K.moved hW.alike hKc, hDc.weaken (fun _ _ _ _ => trivial)⟩⟩ rfl rfl hl.1 rfl (lv_room (Nat.le_of_ble_eq_true rfl)) d_M_reads_157 ⟨(Nat.le_of_ble_eq_true rfl), (Nat.le_of_ble_eq_true rfl)⟩) hS (fun q _ h => hFc q h) hFc (fun r_185 u t H1 locs ht hvm hw_186 hB hz1 hk1 hS => ?_)
                    obtain ⟨hP1, hK1, hD1⟩ := hB
                    rw [ht] at hP1
                    have hK1 := va_K.moved hvm.symm hK1
                    obtain rfl : r_185 = 0 := hw_186
                    obtain ⟨hP, hD⟩ := va_join (wr := [(a_sa, .inl (k_sa, 120, .inl f_sa)), (a_ru, .inl (k_ru, 410, .inl R))]) (w1 := [(a_m, .inr (5, [.int v_th, .ref a_sa, .int v_sz, .int a, .int a, .ref a_ru, .ref a_me, .ref a_le, .int v_n, .ref a_cl, .ref a_te, .ref a_ki, .ref a_ty, .ref a_bl, .ref a_ex, .ref a_lo, .int v_nl, .ref a_ho, .ref a_fi, .int v_nf, .ref a_cz, .int v_nc]))]) hP hD [0] [1, 2] rfl rfl (by decide) (by decide) hk1 hFc hP1 hD1
                    replace hK := (hK.sub (tys' := [(k_sa, .byte), (k_ru, .int)]) [0, 1] rfl).app hK1
                    generalize H1 = H at hP hS ⊢
                    replace hP := hP.sub (ws' := [(a_m, .inr (5, [.int v_th, .ref a_sa, .int v_sz, .int a, .int a, .ref a_ru, .ref a_me, .ref a_le, .int v_n, .ref a_cl, .ref a_te, .ref a_ki, .ref a_ty, .ref a_bl, .ref a_ex, .ref a_lo, .int v_nl, .ref a_ho, .ref a_fi, .int v_nf, .ref a_cz, .int v_nc])), (a_sa, .inl (k_sa, 120, .inl f_sa)), (a_ru, .inl (k_ru, 410, .inl R))]) [2, 0, 1] rfl
                    replace hD := hD.sub (ws' := [(a_m, .inr (5, [.int v_th, .ref a_sa, .int v_sz, .int a, .int a, .ref a_ru, .ref a_me, .ref a_le, .int v_n, .ref a_cl, .ref a_te, .ref a_ki, .ref a_ty, .ref a_bl, .ref a_ex, .ref a_lo, .int v_nl, .ref a_ho, .ref a_fi, .int v_nf, .ref a_cz, .int v_nc])), (a_sa, .inl (k_sa, 120, .inl f_sa)), (a_ru, .inl (k_ru, 410, .inl R))]) [2, 0, 1] (by decide) rfl
                    replace hK := hK.sub (tys' := [(k_sa, .byte), (k_ru, .int)]) [0, 1] rfl
                    have hP9 := hP.sub (ws' := [(a_m, .inr (5, [.int v_th, .ref a_sa, .int v_sz, .int a, .int a, .ref a_ru, .ref a_me, .ref a_le, .int v_n, .ref a_cl, .ref a_te, .ref a_ki, .ref a_ty, .ref a_bl, .ref a_ex, .ref a_lo, .int v_nl, .ref a_ho, .ref a_fi, .int v_nf, .ref a_cz, .int v_nc])), (a_sa, .inl (k_sa, 120, .inl f_sa)), (a_ru, .inl (k_ru, 410, .inl R))]) [0, 1, 2] rfl
                    have hD9 := hD.sub (ws' := [(a_m, .inr (5, [.int v_th, .ref a_sa, .int v_sz, .int a, .int a, .ref a_ru, .ref a_me, .ref a_le, .int v_n, .ref a_cl, .ref a_te, .ref a_ki, .ref a_ty, .ref a_bl, .ref a_ex, .ref a_lo, .int v_nl, .ref a_ho, .ref a_fi, .int v_nf, .ref a_cz, .int v_nc])), (a_sa, .inl (k_sa, 120, .inl f_sa)), (a_ru, .inl (k_ru, 410, .inl R))]) [0, 1, 2] (by decide) rfl
                    have hK9 := hK.sub (tys' := [(k_sa, .byte), (k_ru, .int)]) [0, 1] rfl
                    exact W.zret (v := 0) hx hb hr rfl (fun t ht hW => ⟨⟨0, (), rfl, by rw [← hz, hE], by rw [ht, ← hz, hE]; exact hP9, va_K.moved hW.alike hK9, by rw [← hz, hE]; exact hD9⟩, hS.F ht⟩) hS.2.2 d_M_reads_160
              · rw [if_neg c_180] at hg_rd1
                refine lv_iload_n hx hb d_M_reads_98 rfl (lv_at hl 1 rfl) ?_
                refine lv_iconst (v := 4) hx hb d_M_reads_99 (by decide) ?_
                refine lv_icmp_ge (tgt := 112) hx hb d_M_reads_100 (by decide) (fun c_187 => ?_) (fun c_187 => ?_)
                · rw [if_pos c_187] at hg_rd1
                  refine lv_iload_n hx hb d_M_reads_112 rfl (lv_at hl 1 rfl) ?_
                  refine lv_iconst (v := 5) hx hb d_M_reads_113 (by decide) ?_
                  refine lv_icmp_eq (tgt := 123) hx hb d_M_reads_114 (by decide) (fun c_188 => ?_) (fun c_188 => ?_)
                  · rw [if_pos c_188] at hg_rd1
                    refine lv_iload_n hx hb d_M_reads_123 rfl (lv_at hl 0 rfl) ?_
                    refine lv_bipush (v := 10) hx hb d_M_reads_124 (by decide) ?_
                    refine lv_icmp_ne (tgt := 142) hx hb d_M_reads_126 (by decide) (fun c_189 => ?_) (fun c_189 => ?_)
                    · rw [if_neg c_189] at hg_rd1
                      refine lv_iconst (v := 0) hx hb d_M_reads_142 (by decide) ?_
                      refine lv_istore_n (lv' := [(3, .int 0), (2, .int (g_Mg_step (g_Mg_word v_sz a f_sa))), (1, .int la), (0, .ref a_m)]) hx hb d_M_reads_143 rfl hl (by decide) rfl (fun ls hl => ?_)
                      refine lv_iload_n hx hb d_M_reads_144 rfl (lv_at hl 1 rfl) ?_
                      refine lv_if_eq (tgt := 152) hx hb d_M_reads_145 (by decide) (fun c_190 => ?_) (fun c_190 => ?_)
                      · subst hg_rd1
                        dsimp only at hE
                        rw [if_neg (by decide)] at hE
                        rw [if_neg (by decide)] at hE
                        rw [if_pos rfl] at hE
                        refine lv_aload_n hx hb d_M_reads_152 rfl (lv_at hl 3 rfl) ?_
                        refine lv_aload_n hx hb d_M_reads_153 rfl (lv_at hl 3 rfl) ?_
                        refine va_get (D := (dC, dI)) (ci := 5) (v := .int a) (C := "LoanRulesModel") (T := Fz_M) (N := 22) hx hb hts it_M hown hK hP 0 rfl rfl 3 (by decide) (hts _ tw_604) (fun _ h9 => h9) rfl d_M_reads_154 ?_
                        have hPc := hP.sub (ws' := [(a_m, .inr (5, [.int v_th, .ref a_sa, .int v_sz, .int a, .int wr, .ref a_ru, .ref a_me, .ref a_le, .int v_n, .ref a_cl, .ref a_te, .ref a_ki, .ref a_ty, .ref a_bl, .ref a_ex, .ref a_lo, .int v_nl, .ref a_ho, .ref a_fi, .int v_nf, .ref a_cz, .int v_nc]))]) [0] rfl
                        have hKc := hK.sub (tys' := []) [] rfl
                        have hDc := hD.sub (ws' := [(a_m, .inr (5, [.int v_th, .ref a_sa, .int v_sz, .int a, .int wr, .ref a_ru, .ref a_me, .ref a_le, .int v_n, .ref a_cl, .ref a_te, .ref a_ki, .ref a_ty, .ref a_bl, .ref a_ex, .ref a_lo, .int v_nl, .ref a_ho, .ref a_fi, .int v_nf, .ref a_cz, .int v_nc]))]) [0] (by decide) rfl
                        have hFc := va_free (wc := [(a_m, .inr (5, [.int v_th, .ref a_sa, .int v_sz, .int a, .int wr, .ref a_ru, .ref a_me, .ref a_le, .int v_n, .ref a_cl, .ref a_te, .ref a_ki, .ref a_ty, .ref a_bl, .ref a_ex, .ref a_lo, .int v_nl, .ref a_ho, .ref a_fi, .int v_nf, .ref a_cz, .int v_nc]))]) hD hS hA [0] rfl
                        refine va_calli (va_runV (As := [.int a]) (rest := []) ⟨hx, hb, hml, hown, hts⟩ (c_Mg_bad l dC dI adK adV (a_m := a_m) (p0 := a) (v_th := v_th) (a_sa := a_sa) (v_sz := v_sz) (v_at := a) (v_wr := wr) (a_ru := a_ru) (a_me := a_me) (a_le := a_le) (v_n := v_n) (a_cl := a_cl) (a_te := a_te) (a_ki := a_ki) (a_ty := a_ty) (a_bl := a_bl) (a_ex := a_ex) (a_lo := a_lo) (v_nl := v_nl) (a_ho := a_ho) (a_fi := a_fi) (v_nf := v_nf) (a_cz := a_cz) (v_nc := v_nc) (sz := H.size)) (cwV 1 hts (gV tw_688 tw_690 tw_28 tw_46 tw_691) rfl rfl rfl (by decide +kernel) ⟨(Nat.le_of_ble_eq_true rfl), (Nat.le_of_ble_eq_true rfl)⟩) ⟨fun a U g mk q => by obtain ⟨q0, q1, qZ, qP, qK, qD⟩ := q; exact ⟨q0, q1, zz_call qZ, qP, va_K.moved (u := U) (U := U.calling g mk a) (Vm.Alike.refl U.vm) qK, qD⟩, va_recv hKc hPc (ci := 5) (q0 := 0) rfl rfl, fun U hU hW => ⟨rfl, by rw [hU], zz_rw hS hFc hU hW hZ, by rw [hU]; exact hPc, va_K.moved hW.alike hKc, hDc.weaken (fun _ _ _ _ => trivial)⟩⟩ rfl rfl hl.1 rfl (lv_room (Nat.le_of_ble_eq_true rfl)) d_M_reads_157 ⟨(Nat.le_of_ble_eq_true rfl), (Nat.le_of_ble_eq_true rfl)⟩) hS (fun q _ h => hFc q h) hFc (fun r_191 u t H1 locs ht hvm hw_192 hB hz1 hk1 hS => ?_)
                        obtain ⟨hP1, hK1, hD1⟩ := hB
                        rw [ht] at hP1
                        have hK1 := va_K.moved hvm.symm hK1
                        obtain rfl : r_191 = 0 := hw_192
                        obtain ⟨hP, hD⟩ := va_join (wr := [(a_sa, .inl (k_sa, 120, .inl f_sa)), (a_ru, .inl (k_ru, 410, .inl R))]) (w1 := [(a_m, .inr (5, [.int v_th, .ref a_sa, .int v_sz, .int a, .int a, .ref a_ru, .ref a_me, .ref a_le, .int v_n, .ref a_cl, .ref a_te, .ref a_ki, .ref a_ty, .ref a_bl, .ref a_ex, .ref a_lo, .int v_nl, .ref a_ho, .ref a_fi, .int v_nf, .ref a_cz, .int v_nc]))]) hP hD [0] [1, 2] rfl rfl (by decide) (by decide) hk1 hFc hP1 hD1
                        replace hK := (hK.sub (tys' := [(k_sa, .byte), (k_ru, .int)]) [0, 1] rfl).app hK1
                        generalize H1 = H at hP hS ⊢
                        replace hP := hP.sub (ws' := [(a_m, .inr (5, [.int v_th, .ref a_sa, .int v_sz, .int a, .int a, .ref a_ru, .ref a_me, .ref a_le, .int v_n, .ref a_cl, .ref a_te, .ref a_ki, .ref a_ty, .ref a_bl, .ref a_ex, .ref a_lo, .int v_nl, .ref a_ho, .ref a_fi, .int v_nf, .ref a_cz, .int v_nc])), (a_sa, .inl (k_sa, 120, .inl f_sa)), (a_ru, .inl (k_ru, 410, .inl R))]) [2, 0, 1] rfl
                        replace hD := hD.sub (ws' := [(a_m, .inr (5, [.int v_th, .ref a_sa, .int v_sz, .int a, .int a, .ref a_ru, .ref a_me, .ref a_le, .int v_n, .ref a_cl, .ref a_te, .ref a_ki, .ref a_ty, .ref a_bl, .ref a_ex, .ref a_lo, .int v_nl, .ref a_ho, .ref a_fi, .int v_nf, .ref a_cz, .int v_nc])), (a_sa, .inl (k_sa, 120, .inl f_sa)), (a_ru, .inl (k_ru, 410, .inl R))]) [2, 0, 1] (by decide) rfl
                        replace hK := hK.sub (tys' := [(k_sa, .byte), (k_ru, .int)]) [0, 1] rfl
                        have hP9 := hP.sub (ws' := [(a_m, .inr (5, [.int v_th, .ref a_sa, .int v_sz, .int a, .int a, .ref a_ru, .ref a_me, .ref a_le, .int v_n, .ref a_cl, .ref a_te, .ref a_ki, .ref a_ty, .ref a_bl, .ref a_ex, .ref a_lo, .int v_nl, .ref a_ho, .ref a_fi, .int v_nf, .ref a_cz, .int v_nc])), (a_sa, .inl (k_sa, 120, .inl f_sa)), (a_ru, .inl (k_ru, 410, .inl R))]) [0, 1, 2] rfl
                        have hD9 := hD.sub (ws' := [(a_m, .inr (5, [.int v_th, .ref a_sa, .int v_sz, .int a, .int a, .ref a_ru, .ref a_me, .ref a_le, .int v_n, .ref a_cl, .ref a_te, .ref a_ki, .ref a_ty, .ref a_bl, .ref a_ex, .ref a_lo, .int v_nl, .ref a_ho, .ref a_fi, .int v_nf, .ref a_cz, .int v_nc])), (a_sa, .inl (k_sa, 120, .inl f_sa)), (a_ru, .inl (k_ru, 410, .inl R))]) [0, 1, 2] (by decide) rfl
                        have hK9 := hK.sub (tys' := [(k_sa, .byte), (k_ru, .int)]) [0, 1] rfl
                        exact W.zret (v := 0) hx hb hr rfl (fun t ht hW => ⟨⟨0, (), rfl, by rw [← hz, hE], by rw [ht, ← hz, hE]; exact hP9, va_K.moved hW.alike hK9, by rw [← hz, hE]; exact hD9⟩, hS.F ht⟩) hS.2.2 d_M_reads_160
                      · refine lv_iload_n hx hb d_M_reads_148 rfl (lv_at hl 0 rfl) ?_
                        refine lv_if_ne (tgt := 161) hx hb d_M_reads_149 (by decide) (fun c_193 => ?_) (fun c_193 => ?_)
                        · exact absurd (by decide) c_193
                        · subst hg_rd1
                          dsimp only at hE
                          rw [if_neg (by decide)] at hE
                          rw [if_neg (by decide)] at hE
                          rw [if_pos rfl] at hE
                          refine lv_aload_n hx hb d_M_reads_152 rfl (lv_at hl 3 rfl) ?_
                          refine lv_aload_n hx hb d_M_reads_153 rfl (lv_at hl 3 rfl) ?_
                          refine va_get (D := (dC, dI)) (ci := 5) (v := .int a) (C := "LoanRulesModel") (T := Fz_M) (N := 22) hx hb hts it_M hown hK hP 0 rfl rfl 3 (by decide) (hts _ tw_604) (fun _ h9 => h9) rfl d_M_reads_154 ?_
                          have hPc := hP.sub (ws' := [(a_m, .inr (5, [.int v_th, .ref a_sa, .int v_sz, .int a, .int wr, .ref a_ru, .ref a_me, .ref a_le, .int v_n, .ref a_cl, .ref a_te, .ref a_ki, .ref a_ty, .ref a_bl, .ref a_ex, .ref a_lo, .int v_nl, .ref a_ho, .ref a_fi, .int v_nf, .ref a_cz, .int v_nc]))]) [0] rfl
                          have hKc := hK.sub (tys' := []) [] rfl
                          have hDc := hD.sub (ws' := [(a_m, .inr (5, [.int v_th, .ref a_sa, .int v_sz, .int a, .int wr, .ref a_ru, .ref a_me, .ref a_le, .int v_n, .ref a_cl, .ref a_te, .ref a_ki, .ref a_ty, .ref a_bl, .ref a_ex, .ref a_lo, .int v_nl, .ref a_ho, .ref a_fi, .int v_nf, .ref a_cz, .int v_nc]))]) [0] (by decide) rfl
                          have hFc := va_free (wc := [(a_m, .inr (5, [.int v_th, .ref a_sa, .int v_sz, .int a, .int wr, .ref a_ru, .ref a_me, .ref a_le, .int v_n, .ref a_cl, .ref a_te, .ref a_ki, .ref a_ty, .ref a_bl, .ref a_ex, .ref a_lo, .int v_nl, .ref a_ho, .ref a_fi, .int v_nf, .ref a_cz, .int v_nc]))]) hD hS hA [0] rfl
                          refine va_calli (va_runV (As := [.int a]) (rest := []) ⟨hx, hb, hml, hown, hts⟩ (c_Mg_bad l dC dI adK adV (a_m := a_m) (p0 := a) (v_th := v_th) (a_sa := a_sa) (v_sz := v_sz) (v_at := a) (v_wr := wr) (a_ru := a_ru) (a_me := a_me) (a_le := a_le) (v_n := v_n) (a_cl := a_cl) (a_te := a_te) (a_ki := a_ki) (a_ty := a_ty) (a_bl := a_bl) (a_ex := a_ex) (a_lo := a_lo) (v_nl := v_nl) (a_ho := a_ho) (a_fi := a_fi) (v_nf := v_nf) (a_cz := a_cz) (v_nc := v_nc) (sz := H.size)) (cwV 1 hts (gV tw_688 tw_690 tw_28 tw_46 tw_691) rfl rfl rfl (by decide +kernel) ⟨(Nat.le_of_ble_eq_true rfl), (Nat.le_of_ble_eq_true rfl)⟩) ⟨fun a U g mk q => by obtain ⟨q0, q1, qZ, qP, qK, qD⟩ := q; exact ⟨q0, q1, zz_call qZ, qP, va_K.moved (u := U) (U := U.calling g mk a) (Vm.Alike.refl U.vm) qK, qD⟩, va_recv hKc hPc (ci := 5) (q0 := 0) rfl rfl, fun U hU hW => ⟨rfl, by rw [hU], zz_rw hS hFc hU hW hZ, by rw [hU]; exact hPc, va_K.moved hW.alike hKc, hDc.weaken (fun _ _ _ _ => trivial)⟩⟩ rfl rfl hl.1 rfl (lv_room (Nat.le_of_ble_eq_true rfl)) d_M_reads_157 ⟨(Nat.le_of_ble_eq_true rfl), (Nat.le_of_ble_eq_true rfl)⟩) hS (fun q _ h => hFc q h) hFc (fun r_194 u t H1 locs ht hvm hw_195 hB hz1 hk1 hS => ?_)
                          obtain ⟨hP1, hK1, hD1⟩ := hB
                          rw [ht] at hP1
                          have hK1 := va_K.moved hvm.symm hK1
                          obtain rfl : r_194 = 0 := hw_195
                          obtain ⟨hP, hD⟩ := va_join (wr := [(a_sa, .inl (k_sa, 120, .inl f_sa)), (a_ru, .inl (k_ru, 410, .inl R))]) (w1 := [(a_m, .inr (5, [.int v_th, .ref a_sa, .int v_sz, .int a, .int a, .ref a_ru, .ref a_me, .ref a_le, .int v_n, .ref a_cl, .ref a_te, .ref a_ki, .ref a_ty, .ref a_bl, .ref a_ex, .ref a_lo, .int v_nl, .ref a_ho, .ref a_fi, .int v_nf, .ref a_cz, .int v_nc]))]) hP hD [0] [1, 2] rfl rfl (by decide) (by decide) hk1 hFc hP1 hD1
                          replace hK := (hK.sub (tys' := [(k_sa, .byte), (k_ru, .int)]) [0, 1] rfl).app hK1
                          generalize H1 = H at hP hS ⊢
                          replace hP := hP.sub (ws' := [(a_m, .inr (5, [.int v_th, .ref a_sa, .int v_sz, .int a, .int a, .ref a_ru, .ref a_me, .ref a_le, .int v_n, .ref a_cl, .ref a_te, .ref a_ki, .ref a_ty, .ref a_bl, .ref a_ex, .ref a_lo, .int v_nl, .ref a_ho, .ref a_fi, .int v_nf, .ref a_cz, .int v_nc])), (a_sa, .inl (k_sa, 120, .inl f_sa)), (a_ru, .inl (k_ru, 410, .inl R))]) [2, 0, 1] rfl
                          replace hD := hD.sub (ws' := [(a_m, .inr (5, [.int v_th, .ref a_sa, .int v_sz, .int a, .int a, .ref a_ru, .ref a_me, .ref a_le, .int v_n, .ref a_cl, .ref a_te, .ref a_ki, .ref a_ty, .ref a_bl, .ref a_ex, .ref a_lo, .int v_nl, .ref a_ho, .ref a_fi, .int v_nf, .ref a_cz, .int v_nc])), (a_sa, .inl (k_sa, 120, .inl f_sa)), (a_ru, .inl (k_ru, 410, .inl R))]) [2, 0, 1] (by decide) rfl
                          replace hK := hK.sub (tys' := [(k_sa, .byte), (k_ru, .int)]) [0, 1] rfl
                          have hP9 := hP.sub (ws' := [(a_m, .inr (5, [.int v_th, .ref a_sa, .int v_sz, .int a, .int a, .ref a_ru, .ref a_me, .ref a_le, .int v_n, .ref a_cl, .ref a_te, .ref a_ki, .ref a_ty, .ref a_bl, .ref a_ex, .ref a_lo, .int v_nl, .ref a_ho, .ref a_fi, .int v_nf, .ref a_cz, .int v_nc])), (a_sa, .inl (k_sa, 120, .inl f_sa)), (a_ru, .inl (k_ru, 410, .inl R))]) [0, 1, 2] rfl
                          have hD9 := hD.sub (ws' := [(a_m, .inr (5, [.int v_th, .ref a_sa, .int v_sz, .int a, .int a, .ref a_ru, .ref a_me, .ref a_le, .int v_n, .ref a_cl, .ref a_te, .ref a_ki, .ref a_ty, .ref a_bl, .ref a_ex, .ref a_lo, .int v_nl, .ref a_ho, .ref a_fi, .int v_nf, .ref a_cz, .int v_nc])), (a_sa, .inl (k_sa, 120, .inl f_sa)), (a_ru, .inl (k_ru, 410, .inl R))]) [0, 1, 2] (by decide) rfl
                          have hK9 := hK.sub (tys' := [(k_sa, .byte), (k_ru, .int)]) [0, 1] rfl
                          exact W.zret (v := 0) hx hb hr rfl (fun t ht hW => ⟨⟨0, (), rfl, by rw [← hz, hE], by rw [ht, ← hz, hE]; exact hP9, va_K.moved hW.alike hK9, by rw [← hz, hE]; exact hD9⟩, hS.F ht⟩) hS.2.2 d_M_reads_160
                    · rw [if_pos c_189] at hg_rd1
                      refine lv_goto (tgt := 138) hx hb d_M_reads_129 (by decide) ?_
                      refine lv_iconst (v := 1) hx hb d_M_reads_138 (by decide) ?_
                      refine lv_goto (tgt := 143) hx hb d_M_reads_139 (by decide) ?_
                      refine lv_istore_n (lv' := [(3, .int 1), (2, .int (g_Mg_step (g_Mg_word v_sz a f_sa))), (1, .int la), (0, .ref a_m)]) hx hb d_M_reads_143 rfl hl (by decide) rfl (fun ls hl => ?_)
                      refine lv_iload_n hx hb d_M_reads_144 rfl (lv_at hl 1 rfl) ?_
                      refine lv_if_eq (tgt := 152) hx hb d_M_reads_145 (by decide) (fun c_196 => ?_) (fun c_196 => ?_)
                      · rw [if_pos c_196] at hg_rd1
                        subst hg_rd1
                        dsimp only at hE
                        rw [if_neg (by decide)] at hE
                        rw [if_neg (by decide)] at hE
                        rw [if_pos rfl] at hE
                        refine lv_aload_n hx hb d_M_reads_152 rfl (lv_at hl 3 rfl) ?_
                        refine lv_aload_n hx hb d_M_reads_153 rfl (lv_at hl 3 rfl) ?_
                        refine va_get (D := (dC, dI)) (ci := 5) (v := .int a) (C := "LoanRulesModel") (T := Fz_M) (N := 22) hx hb hts it_M hown hK hP 0 rfl rfl 3 (by decide) (hts _ tw_604) (fun _ h9 => h9) rfl d_M_reads_154 ?_
                        have hPc := hP.sub (ws' := [(a_m, .inr (5, [.int v_th, .ref a_sa, .int v_sz, .int a, .int wr, .ref a_ru, .ref a_me, .ref a_le, .int v_n, .ref a_cl, .ref a_te, .ref a_ki, .ref a_ty, .ref a_bl, .ref a_ex, .ref a_lo, .int v_nl, .ref a_ho, .ref a_fi, .int v_nf, .ref a_cz, .int v_nc]))]) [0] rfl
                        have hKc := hK.sub (tys' := []) [] rfl
                        have hDc := hD.sub (ws' := [(a_m, .inr (5, [.int v_th, .ref a_sa, .int v_sz, .int a, .int wr, .ref a_ru, .ref a_me, .ref a_le, .int v_n, .ref a_cl, .ref a_te, .ref a_ki, .ref a_ty, .ref a_bl, .ref a_ex, .ref a_lo, .int v_nl, .ref a_ho, .ref a_fi, .int v_nf, .ref a_cz, .int v_nc]))]) [0] (by decide) rfl
                        have hFc := va_free (wc := [(a_m, .inr (5, [.int v_th, .ref a_sa, .int v_sz, .int a, .int wr, .ref a_ru, .ref a_me, .ref a_le, .int v_n, .ref a_cl, .ref a_te, .ref a_ki, .ref a_ty, .ref a_bl, .ref a_ex, .ref a_lo, .int v_nl, .ref a_ho, .ref a_fi, .int v_nf, .ref a_cz, .int v_nc]))]) hD hS hA [0] rfl
                        refine va_calli (va_runV (As := [.int a]) (rest := []) ⟨hx, hb, hml, hown, hts⟩ (c_Mg_bad l dC dI adK adV (a_m := a_m) (p0 := a) (v_th := v_th) (a_sa := a_sa) (v_sz := v_sz) (v_at := a) (v_wr := wr) (a_ru := a_ru) (a_me := a_me) (a_le := a_le) (v_n := v_n) (a_cl := a_cl) (a_te := a_te) (a_ki := a_ki) (a_ty := a_ty) (a_bl := a_bl) (a_ex := a_ex) (a_lo := a_lo) (v_nl := v_nl) (a_ho := a_ho) (a_fi := a_fi) (v_nf := v_nf) (a_cz := a_cz) (v_nc := v_nc) (sz := H.size)) (cwV 1 hts (gV tw_688 tw_690 tw_28 tw_46 tw_691) rfl rfl rfl (by decide +kernel) ⟨(Nat.le_of_ble_eq_true rfl), (Nat.le_of_ble_eq_true rfl)⟩) ⟨fun a U g mk q => by obtain ⟨q0, q1, qZ, qP, qK, qD⟩ := q; exact ⟨q0, q1, zz_call qZ, qP, va_K.moved (u := U) (U := U.calling g mk a) (Vm.Alike.refl U.vm) qK, qD⟩, va_recv hKc hPc (ci := 5) (q0 := 0) rfl rfl, fun U hU hW => ⟨rfl, by rw [hU], zz_rw hS hFc hU hW hZ, by rw [hU]; exact hPc, va_K.moved hW.alike hKc, hDc.weaken (fun _ _ _ _ => trivial)⟩⟩ rfl rfl hl.1 rfl (lv_room (Nat.le_of_ble_eq_true rfl)) d_M_reads_157 ⟨(Nat.le_of_ble_eq_true rfl), (Nat.le_of_ble_eq_true rfl)⟩) hS (fun q _ h => hFc q h) hFc (fun r_197 u t H1 locs ht hvm hw_198 hB hz1 hk1 hS => ?_)
                        obtain ⟨hP1, hK1, hD1⟩ := hB
                        rw [ht] at hP1
                        have hK1 := va_K.moved hvm.symm hK1
                        obtain rfl : r_197 = 0 := hw_198
                        obtain ⟨hP, hD⟩ := va_join (wr := [(a_sa, .inl (k_sa, 120, .inl f_sa)), (a_ru, .inl (k_ru, 410, .inl R))]) (w1 := [(a_m, .inr (5, [.int v_th, .ref a_sa, .int v_sz, .int a, .int a, .ref a_ru, .ref a_me, .ref a_le, .int v_n, .ref a_cl, .ref a_te, .ref a_ki, .ref a_ty, .ref a_bl, .ref a_ex, .ref a_lo, .int v_nl, .ref a_ho, .ref a_fi, .int v_nf, .ref a_cz, .int v_nc]))]) hP hD [0] [1, 2] rfl rfl (by decide) (by decide) hk1 hFc hP1 hD1
                        replace hK := (hK.sub (tys' := [(k_sa, .byte), (k_ru, .int)]) [0, 1] rfl).app hK1
                        generalize H1 = H at hP hS ⊢
                        replace hP := hP.sub (ws' := [(a_m, .inr (5, [.int v_th, .ref a_sa, .int v_sz, .int a, .int a, .ref a_ru, .ref a_me, .ref a_le, .int v_n, .ref a_cl, .ref a_te, .ref a_ki, .ref a_ty, .ref a_bl, .ref a_ex, .ref a_lo, .int v_nl, .ref a_ho, .ref a_fi, .int v_nf, .ref a_cz, .int v_nc])), (a_sa, .inl (k_sa, 120, .inl f_sa)), (a_ru, .inl (k_ru, 410, .inl R))]) [2, 0, 1] rfl
                        replace hD := hD.sub (ws' := [(a_m, .inr (5, [.int v_th, .ref a_sa, .int v_sz, .int a, .int a, .ref a_ru, .ref a_me, .ref a_le, .int v_n, .ref a_cl, .ref a_te, .ref a_ki, .ref a_ty, .ref a_bl, .ref a_ex, .ref a_lo, .int v_nl, .ref a_ho, .ref a_fi, .int v_nf, .ref a_cz, .int v_nc])), (a_sa, .inl (k_sa, 120, .inl f_sa)), (a_ru, .inl (k_ru, 410, .inl R))]) [2, 0, 1] (by decide) rfl
                        replace hK := hK.sub (tys' := [(k_sa, .byte), (k_ru, .int)]) [0, 1] rfl
                        have hP9 := hP.sub (ws' := [(a_m, .inr (5, [.int v_th, .ref a_sa, .int v_sz, .int a, .int a, .ref a_ru, .ref a_me, .ref a_le, .int v_n, .ref a_cl, .ref a_te, .ref a_ki, .ref a_ty, .ref a_bl, .ref a_ex, .ref a_lo, .int v_nl, .ref a_ho, .ref a_fi, .int v_nf, .ref a_cz, .int v_nc])), (a_sa, .inl (k_sa, 120, .inl f_sa)), (a_ru, .inl (k_ru, 410, .inl R))]) [0, 1, 2] rfl
                        have hD9 := hD.sub (ws' := [(a_m, .inr (5, [.int v_th, .ref a_sa, .int v_sz, .int a, .int a, .ref a_ru, .ref a_me, .ref a_le, .int v_n, .ref a_cl, .ref a_te, .ref a_ki, .ref a_ty, .ref a_bl, .ref a_ex, .ref a_lo, .int v_nl, .ref a_ho, .ref a_fi, .int v_nf, .ref a_cz, .int v_nc])), (a_sa, .inl (k_sa, 120, .inl f_sa)), (a_ru, .inl (k_ru, 410, .inl R))]) [0, 1, 2] (by decide) rfl
                        have hK9 := hK.sub (tys' := [(k_sa, .byte), (k_ru, .int)]) [0, 1] rfl
                        exact W.zret (v := 0) hx hb hr rfl (fun t ht hW => ⟨⟨0, (), rfl, by rw [← hz, hE], by rw [ht, ← hz, hE]; exact hP9, va_K.moved hW.alike hK9, by rw [← hz, hE]; exact hD9⟩, hS.F ht⟩) hS.2.2 d_M_reads_160
                      · rw [if_neg c_196] at hg_rd1
                        refine lv_iload_n hx hb d_M_reads_148 rfl (lv_at hl 0 rfl) ?_
                        refine lv_if_ne (tgt := 161) hx hb d_M_reads_149 (by decide) (fun c_199 => ?_) (fun c_199 => ?_)
                        · refine lv_aload_n hx hb d_M_reads_161 rfl (lv_at hl 3 rfl) ?_
                          have hPc := hP.sub (ws' := [(a_m, .inr (5, [.int v_th, .ref a_sa, .int v_sz, .int a, .int wr, .ref a_ru, .ref a_me, .ref a_le, .int v_n, .ref a_cl, .ref a_te, .ref a_ki, .ref a_ty, .ref a_bl, .ref a_ex, .ref a_lo, .int v_nl, .ref a_ho, .ref a_fi, .int v_nf, .ref a_cz, .int v_nc])), (a_sa, .inl (k_sa, 120, .inl f_sa))]) [0, 1] rfl
                          have hKc := hK.sub (tys' := [(k_sa, .byte)]) [0] rfl
                          have hDc := hD.sub (ws' := [(a_m, .inr (5, [.int v_th, .ref a_sa, .int v_sz, .int a, .int wr, .ref a_ru, .ref a_me, .ref a_le, .int v_n, .ref a_cl, .ref a_te, .ref a_ki, .ref a_ty, .ref a_bl, .ref a_ex, .ref a_lo, .int v_nl, .ref a_ho, .ref a_fi, .int v_nf, .ref a_cz, .int v_nc])), (a_sa, .inl (k_sa, 120, .inl f_sa))]) [0, 1] (by decide) rfl
                          have hFc := va_free (wc := [(a_m, .inr (5, [.int v_th, .ref a_sa, .int v_sz, .int a, .int wr, .ref a_ru, .ref a_me, .ref a_le, .int v_n, .ref a_cl, .ref a_te, .ref a_ki, .ref a_ty, .ref a_bl, .ref a_ex, .ref a_lo, .int v_nl, .ref a_ho, .ref a_fi, .int v_nf, .ref a_cz, .int v_nc])), (a_sa, .inl (k_sa, 120, .inl f_sa))]) hD hS hA [0, 1] rfl
                          refine va_callv (va_runV (As := []) (rest := []) ⟨hx, hb, hml, hown, hts⟩ (c_Mg_pass l dC dI adK adV (a_m := a_m) (v_th := v_th) (a_sa := a_sa) (v_sz := v_sz) (v_at := a) (v_wr := wr) (a_ru := a_ru) (a_me := a_me) (a_le := a_le) (v_n := v_n) (a_cl := a_cl) (a_te := a_te) (a_ki := a_ki) (a_ty := a_ty) (a_bl := a_bl) (a_ex := a_ex) (a_lo := a_lo) (v_nl := v_nl) (a_ho := a_ho) (a_fi := a_fi) (v_nf := v_nf) (a_cz := a_cz) (v_nc := v_nc) (k_sa := k_sa) (f_sa := f_sa) (sz := H.size) hsz ha) (cwV 0 hts (gV tw_712 tw_714 tw_30 tw_46 tw_715) rfl rfl rfl (by decide +kernel) ⟨(Nat.le_of_ble_eq_true rfl), (Nat.le_of_ble_eq_true rfl)⟩) ⟨fun a U g mk q => by obtain ⟨q0, q1, qZ, qP, qK, qD⟩ := q; exact ⟨q0, q1, zz_call qZ, qP, va_K.moved (u := U) (U := U.calling g mk a) (Vm.Alike.refl U.vm) qK, qD⟩, va_recv hKc hPc (ci := 5) (q0 := 0) rfl rfl, fun U hU hW => ⟨rfl, by rw [hU], zz_rw hS hFc hU hW hZ, by rw [hU]; exact hPc, va_K.moved hW.alike hKc, hDc.weaken (fun _ _ _ _ => trivial)⟩⟩ rfl rfl hl.1 rfl (lv_room (Nat.le_of_ble_eq_true rfl)) d_M_reads_162 ⟨(Nat.le_of_ble_eq_true rfl), (Nat.le_of_ble_eq_true rfl)⟩) hS (fun q _ h => hFc q h) hFc (fun u t H1 locs ht hvm hw_200 hB hz1 hk1 hS => ?_)
                          generalize hg_x_201 : g_Mg_pass v_sz a f_sa = x_201 at hw_200 hB hg_rd1
                          rw [bv_eq] at hg_rd1
                          obtain ⟨hP1, hK1, hD1⟩ := hB
                          rw [ht] at hP1
                          have hK1 := va_K.moved hvm.symm hK1
                          obtain ⟨hP, hD⟩ := va_join (wr := [(a_ru, .inl (k_ru, 410, .inl R))]) (w1 := [(a_m, .inr (5, [.int v_th, .ref a_sa, .int v_sz, .int x_201, .int wr, .ref a_ru, .ref a_me, .ref a_le, .int v_n, .ref a_cl, .ref a_te, .ref a_ki, .ref a_ty, .ref a_bl, .ref a_ex, .ref a_lo, .int v_nl, .ref a_ho, .ref a_fi, .int v_nf, .ref a_cz, .int v_nc])), (a_sa, .inl (k_sa, 120, .inl f_sa))]) hP hD [0, 1] [2] rfl rfl (by decide) (by decide) hk1 hFc hP1 hD1
                          replace hK := (hK.sub (tys' := [(k_ru, .int)]) [1] rfl).app hK1
                          generalize H1 = H at hP hS ⊢
                          replace hP := hP.sub (ws' := [(a_m, .inr (5, [.int v_th, .ref a_sa, .int v_sz, .int x_201, .int wr, .ref a_ru, .ref a_me, .ref a_le, .int v_n, .ref a_cl, .ref a_te, .ref a_ki, .ref a_ty, .ref a_bl, .ref a_ex, .ref a_lo, .int v_nl, .ref a_ho, .ref a_fi, .int v_nf, .ref a_cz, .int v_nc])), (a_sa, .inl (k_sa, 120, .inl f_sa)), (a_ru, .inl (k_ru, 410, .inl R))]) [1, 2, 0] rfl
                          replace hD := hD.sub (ws' := [(a_m, .inr (5, [.int v_th, .ref a_sa, .int v_sz, .int x_201, .int wr, .ref a_ru, .ref a_me, .ref a_le, .int v_n, .ref a_cl, .ref a_te, .ref a_ki, .ref a_ty, .ref a_bl, .ref a_ex, .ref a_lo, .int v_nl, .ref a_ho, .ref a_fi, .int v_nf, .ref a_cz, .int v_nc])), (a_sa, .inl (k_sa, 120, .inl f_sa)), (a_ru, .inl (k_ru, 410, .inl R))]) [1, 2, 0] (by decide) rfl
                          replace hK := hK.sub (tys' := [(k_sa, .byte), (k_ru, .int)]) [1, 0] rfl
                          refine lv_aload_n hx hb d_M_reads_165 rfl (lv_at hl 3 rfl) ?_
                          refine lv_iload_n hx hb d_M_reads_166 rfl (lv_at hl 1 rfl) ?_
                          have hPc := hP.sub (ws' := [(a_m, .inr (5, [.int v_th, .ref a_sa, .int v_sz, .int x_201, .int wr, .ref a_ru, .ref a_me, .ref a_le, .int v_n, .ref a_cl, .ref a_te, .ref a_ki, .ref a_ty, .ref a_bl, .ref a_ex, .ref a_lo, .int v_nl, .ref a_ho, .ref a_fi, .int v_nf, .ref a_cz, .int v_nc])), (a_sa, .inl (k_sa, 120, .inl f_sa)), (a_ru, .inl (k_ru, 410, .inl R))]) [0, 1, 2] rfl
                          have hKc := hK.sub (tys' := [(k_sa, .byte), (k_ru, .int)]) [0, 1] rfl
                          have hDc := hD.sub (ws' := [(a_m, .inr (5, [.int v_th, .ref a_sa, .int v_sz, .int x_201, .int wr, .ref a_ru, .ref a_me, .ref a_le, .int v_n, .ref a_cl, .ref a_te, .ref a_ki, .ref a_ty, .ref a_bl, .ref a_ex, .ref a_lo, .int v_nl, .ref a_ho, .ref a_fi, .int v_nf, .ref a_cz, .int v_nc])), (a_sa, .inl (k_sa, 120, .inl f_sa)), (a_ru, .inl (k_ru, 410, .inl R))]) [0, 1, 2] (by decide) rfl
                          have hFc := va_free (wc := [(a_m, .inr (5, [.int v_th, .ref a_sa, .int v_sz, .int x_201, .int wr, .ref a_ru, .ref a_me, .ref a_le, .int v_n, .ref a_cl, .ref a_te, .ref a_ki, .ref a_ty, .ref a_bl, .ref a_ex, .ref a_lo, .int v_nl, .ref a_ho, .ref a_fi, .int v_nf, .ref a_cz, .int v_nc])), (a_sa, .inl (k_sa, 120, .inl f_sa)), (a_ru, .inl (k_ru, 410, .inl R))]) hD hS hA [0, 1, 2] rfl
                          refine va_calli (va_runV (As := [.int (g_Mg_step (g_Mg_word v_sz a f_sa))]) (rest := []) ⟨hx, hb, hml, hown, hts⟩ (c_Mg_one l dC dI adK adV (a_m := a_m) (p0 := g_Mg_step (g_Mg_word v_sz a f_sa)) (v_th := v_th) (a_sa := a_sa) (v_sz := v_sz) (v_at := x_201) (v_wr := wr) (a_ru := a_ru) (a_me := a_me) (a_le := a_le) (v_n := v_n) (a_cl := a_cl) (a_te := a_te) (a_ki := a_ki) (a_ty := a_ty) (a_bl := a_bl) (a_ex := a_ex) (a_lo := a_lo) (v_nl := v_nl) (a_ho := a_ho) (a_fi := a_fi) (v_nf := v_nf) (a_cz := a_cz) (v_nc := v_nc) (k_sa := k_sa) (f_sa := f_sa) (k_ru := k_ru) (f_ru := R) (sz := H.size) hsz (hg_x_201 ▸ pass_at hsz ha) hn) (cwV 1 hts (gV tw_716 tw_718 tw_31 tw_46 tw_719) rfl rfl rfl (by decide +kernel) ⟨(Nat.le_of_ble_eq_true rfl), (Nat.le_of_ble_eq_true rfl)⟩) ⟨fun a U g mk q => by obtain ⟨q0, q1, qZ, qP, qK, qD⟩ := q; exact ⟨q0, q1, zz_call qZ, qP, va_K.moved (u := U) (U := U.calling g mk a) (Vm.Alike.refl U.vm) qK, qD⟩, va_recv hKc hPc (ci := 5) (q0 := 0) rfl rfl, fun U hU hW => ⟨rfl, by rw [hU], zz_rw hS hFc hU hW hZ, by rw [hU]; exact hPc, va_K.moved hW.alike hKc, hDc.weaken (fun _ _ _ _ => trivial)⟩⟩ rfl rfl hl.1 rfl (lv_room (Nat.le_of_ble_eq_true rfl)) d_M_reads_167 ⟨(Nat.le_of_ble_eq_true rfl), (Nat.le_of_ble_eq_true rfl)⟩) hS (fun q _ h => hFc q h) hFc (fun r_202 u t H1 locs ht hvm hw_203 hB hz1 hk1 hS => ?_)
                          generalize hg_x_204 : g_Mg_one (g_Mg_step (g_Mg_word v_sz a f_sa)) v_sz x_201 wr v_n f_sa R = x_204 at hw_203 hB hg_rd1
                          rw [bv_eq] at hg_rd1
                          obtain ⟨hP1, hK1, hD1⟩ := hB
                          rw [ht] at hP1
                          have hK1 := va_K.moved hvm.symm hK1
                          obtain rfl : r_202 = x_204.1 := hw_203
                          obtain ⟨hP, hD⟩ := va_join (wr := []) (w1 := [(a_m, .inr (5, [.int v_th, .ref a_sa, .int v_sz, .int x_204.2.1, .int x_204.2.2.1, .ref a_ru, .ref a_me, .ref a_le, .int v_n, .ref a_cl, .ref a_te, .ref a_ki, .ref a_ty, .ref a_bl, .ref a_ex, .ref a_lo, .int v_nl, .ref a_ho, .ref a_fi, .int v_nf, .ref a_cz, .int v_nc])), (a_sa, .inl (k_sa, 120, .inl f_sa)), (a_ru, .inl (k_ru, 410, .inl x_204.2.2.2))]) hP hD [0, 1, 2] [] rfl rfl (by decide) (by decide) hk1 hFc hP1 hD1
                          replace hK := (hK.sub (tys' := []) [] rfl).app hK1
                          generalize H1 = H at hP hS ⊢
                          replace hP := hP.sub (ws' := [(a_m, .inr (5, [.int v_th, .ref a_sa, .int v_sz, .int x_204.2.1, .int x_204.2.2.1, .ref a_ru, .ref a_me, .ref a_le, .int v_n, .ref a_cl, .ref a_te, .ref a_ki, .ref a_ty, .ref a_bl, .ref a_ex, .ref a_lo, .int v_nl, .ref a_ho, .ref a_fi, .int v_nf, .ref a_cz, .int v_nc])), (a_sa, .inl (k_sa, 120, .inl f_sa)), (a_ru, .inl (k_ru, 410, .inl x_204.2.2.2))]) [0, 1, 2] rfl
                          replace hD := hD.sub (ws' := [(a_m, .inr (5, [.int v_th, .ref a_sa, .int v_sz, .int x_204.2.1, .int x_204.2.2.1, .ref a_ru, .ref a_me, .ref a_le, .int v_n, .ref a_cl, .ref a_te, .ref a_ki, .ref a_ty, .ref a_bl, .ref a_ex, .ref a_lo, .int v_nl, .ref a_ho, .ref a_fi, .int v_nf, .ref a_cz, .int v_nc])), (a_sa, .inl (k_sa, 120, .inl f_sa)), (a_ru, .inl (k_ru, 410, .inl x_204.2.2.2))]) [0, 1, 2] (by decide) rfl
                          replace hK := hK.sub (tys' := [(k_sa, .byte), (k_ru, .int)]) [0, 1] rfl
                          refine lv_if_ne (tgt := 175) hx hb d_M_reads_170 (by decide) (fun c_205 => ?_) (fun c_205 => ?_)
                          · rw [if_neg c_205] at hg_rd1
                            refine lv_iload_n hx hb d_M_reads_175 rfl (lv_at hl 1 rfl) ?_
                            refine lv_istore_n (lv' := [(1, .int (g_Mg_step (g_Mg_word v_sz a f_sa))), (3, .int 1), (2, .int (g_Mg_step (g_Mg_word v_sz a f_sa))), (0, .ref a_m)]) hx hb d_M_reads_176 rfl hl (by decide) rfl (fun ls hl => ?_)
                            refine lv_goto (tgt := 56) hx hb d_M_reads_177 (by decide) ?_
                            exact ih_rd1 _ _ _ _ _ _ _ ⟨hP, hD, hS, lv_sub hl [0, 3] rfl, ((hg_x_204 ▸ one_at hsz (hg_x_201 ▸ pass_at hsz ha))), (step_le _), (li_mt hla c_180 (step_le _) hm_rd1), hg_rd1⟩
                          · rw [if_pos c_205] at hg_rd1
                            subst hg_rd1
                            dsimp only at hE
                            rw [if_neg (by decide)] at hE
                            rw [if_neg (by decide)] at hE
                            rw [if_neg (by decide)] at hE
                            refine lv_iconst (v := 0) hx hb d_M_reads_173 (by decide) ?_
                            have hP9 := hP.sub (ws' := [(a_m, .inr (5, [.int v_th, .ref a_sa, .int v_sz, .int x_204.2.1, .int x_204.2.2.1, .ref a_ru, .ref a_me, .ref a_le, .int v_n, .ref a_cl, .ref a_te, .ref a_ki, .ref a_ty, .ref a_bl, .ref a_ex, .ref a_lo, .int v_nl, .ref a_ho, .ref a_fi, .int v_nf, .ref a_cz, .int v_nc])), (a_sa, .inl (k_sa, 120, .inl f_sa)), (a_ru, .inl (k_ru, 410, .inl x_204.2.2.2))]) [0, 1, 2] rfl
                            have hD9 := hD.sub (ws' := [(a_m, .inr (5, [.int v_th, .ref a_sa, .int v_sz, .int x_204.2.1, .int x_204.2.2.1, .ref a_ru, .ref a_me, .ref a_le, .int v_n, .ref a_cl, .ref a_te, .ref a_ki, .ref a_ty, .ref a_bl, .ref a_ex, .ref a_lo, .int v_nl, .ref a_ho, .ref a_fi, .int v_nf, .ref a_cz, .int v_nc])), (a_sa, .inl (k_sa, 120, .inl f_sa)), (a_ru, .inl (k_ru, 410, .inl x_204.2.2.2))]) [0, 1, 2] (by decide) rfl
                            have hK9 := hK.sub (tys' := [(k_sa, .byte), (k_ru, .int)]) [0, 1] rfl
                            exact W.zret (v := 0) hx hb hr rfl (fun t ht hW => ⟨⟨0, (), rfl, by rw [← hz, hE], by rw [ht, ← hz, hE]; exact hP9, va_K.moved hW.alike hK9, by rw [← hz, hE]; exact hD9⟩, hS.F ht⟩) hS.2.2 d_M_reads_174
                        · exact absurd c_199 (by decide)
                  · rw [if_neg c_188] at hg_rd1
                    refine lv_iload_n hx hb d_M_reads_117 rfl (lv_at hl 1 rfl) ?_
                    refine lv_bipush (v := 6) hx hb d_M_reads_118 (by decide) ?_
                    refine lv_icmp_ne (tgt := 132) hx hb d_M_reads_120 (by decide) (fun c_206 => ?_) (fun c_206 => ?_)
                    · rw [if_neg c_206] at hg_rd1
                      refine lv_iload_n hx hb d_M_reads_132 rfl (lv_at hl 0 rfl) ?_
                      refine lv_bipush (v := 6) hx hb d_M_reads_133 (by decide) ?_
                      refine lv_icmp_le (tgt := 142) hx hb d_M_reads_135 (by decide) (fun c_207 => ?_) (fun c_207 => ?_)
                      · rw [if_pos c_207] at hg_rd1
                        refine lv_iconst (v := 0) hx hb d_M_reads_142 (by decide) ?_
                        refine lv_istore_n (lv' := [(3, .int 0), (2, .int (g_Mg_step (g_Mg_word v_sz a f_sa))), (1, .int la), (0, .ref a_m)]) hx hb d_M_reads_143 rfl hl (by decide) rfl (fun ls hl => ?_)
                        refine lv_iload_n hx hb d_M_reads_144 rfl (lv_at hl 1 rfl) ?_
                        refine lv_if_eq (tgt := 152) hx hb d_M_reads_145 (by decide) (fun c_208 => ?_) (fun c_208 => ?_)
                        · subst hg_rd1
                          dsimp only at hE
                          rw [if_neg (by decide)] at hE
                          rw [if_neg (by decide)] at hE
                          rw [if_pos rfl] at hE
                          refine lv_aload_n hx hb d_M_reads_152 rfl (lv_at hl 3 rfl) ?_
                          refine lv_aload_n hx hb d_M_reads_153 rfl (lv_at hl 3 rfl) ?_
                          refine va_get (D := (dC, dI)) (ci := 5) (v := .int a) (C := "LoanRulesModel") (T := Fz_M) (N := 22) hx hb hts it_M hown hK hP 0 rfl rfl 3 (by decide) (hts _ tw_604) (fun _ h9 => h9) rfl d_M_reads_154 ?_
                          have hPc := hP.sub (ws' := [(a_m, .inr (5, [.int v_th, .ref a_sa, .int v_sz, .int a, .int wr, .ref a_ru, .ref a_me, .ref a_le, .int v_n, .ref a_cl, .ref a_te, .ref a_ki, .ref a_ty, .ref a_bl, .ref a_ex, .ref a_lo, .int v_nl, .ref a_ho, .ref a_fi, .int v_nf, .ref a_cz, .int v_nc]))]) [0] rfl
                          have hKc := hK.sub (tys' := []) [] rfl
                          have hDc := hD.sub (ws' := [(a_m, .inr (5, [.int v_th, .ref a_sa, .int v_sz, .int a, .int wr, .ref a_ru, .ref a_me, .ref a_le, .int v_n, .ref a_cl, .ref a_te, .ref a_ki, .ref a_ty, .ref a_bl, .ref a_ex, .ref a_lo, .int v_nl, .ref a_ho, .ref a_fi, .int v_nf, .ref a_cz, .int v_nc]))]) [0] (by decide) rfl
                          have hFc := va_free (wc := [(a_m, .inr (5, [.int v_th, .ref a_sa, .int v_sz, .int a, .int wr, .ref a_ru, .ref a_me, .ref a_le, .int v_n, .ref a_cl, .ref a_te, .ref a_ki, .ref a_ty, .ref a_bl, .ref a_ex, .ref a_lo, .int v_nl, .ref a_ho, .ref a_fi, .int v_nf, .ref a_cz, .int v_nc]))]) hD hS hA [0] rfl
                          refine va_calli (va_runV (As := [.int a]) (rest := []) ⟨hx, hb, hml, hown, hts⟩ (c_Mg_bad l dC dI adK adV (a_m := a_m) (p0 := a) (v_th := v_th) (a_sa := a_sa) (v_sz := v_sz) (v_at := a) (v_wr := wr) (a_ru := a_ru) (a_me := a_me) (a_le := a_le) (v_n := v_n) (a_cl := a_cl) (a_te := a_te) (a_ki := a_ki) (a_ty := a_ty) (a_bl := a_bl) (a_ex := a_ex) (a_lo := a_lo) (v_nl := v_nl) (a_ho := a_ho) (a_fi := a_fi) (v_nf := v_nf) (a_cz := a_cz) (v_nc := v_nc) (sz := H.size)) (cwV 1 hts (gV tw_688 tw_690 tw_28 tw_46 tw_691) rfl rfl rfl (by decide +kernel) ⟨(Nat.le_of_ble_eq_true rfl), (Nat.le_of_ble_eq_true rfl)⟩) ⟨fun a U g mk q => by obtain ⟨q0, q1, qZ, qP, qK, qD⟩ := q; exact ⟨q0, q1, zz_call qZ, qP, va_K.moved (u := U) (U := U.calling g mk a) (Vm.Alike.refl U.vm) qK, qD⟩, va_recv hKc hPc (ci := 5) (q0 := 0) rfl rfl, fun U hU hW => ⟨rfl, by rw [hU], zz_rw hS hFc hU hW hZ, by rw [hU]; exact hPc, va_K.moved hW.alike hKc, hDc.weaken (fun _ _ _ _ => trivial)⟩⟩ rfl rfl hl.1 rfl (lv_room (Nat.le_of_ble_eq_true rfl)) d_M_reads_157 ⟨(Nat.le_of_ble_eq_true rfl), (Nat.le_of_ble_eq_true rfl)⟩) hS (fun q _ h => hFc q h) hFc (fun r_209 u t H1 locs ht hvm hw_210 hB hz1 hk1 hS => ?_)
                          obtain ⟨hP1, hK1, hD1⟩ := hB
                          rw [ht] at hP1
                          have hK1 := va_K.moved hvm.symm hK1
                          obtain rfl : r_209 = 0 := hw_210
                          obtain ⟨hP, hD⟩ := va_join (wr := [(a_sa, .inl (k_sa, 120, .inl f_sa)), (a_ru, .inl (k_ru, 410, .inl R))]) (w1 := [(a_m, .inr (5, [.int v_th, .ref a_sa, .int v_sz, .int a, .int a, .ref a_ru, .ref a_me, .ref a_le, .int v_n, .ref a_cl, .ref a_te, .ref a_ki, .ref a_ty, .ref a_bl, .ref a_ex, .ref a_lo, .int v_nl, .ref a_ho, .ref a_fi, .int v_nf, .ref a_cz, .int v_nc]))]) hP hD [0] [1, 2] rfl rfl (by decide) (by decide) hk1 hFc hP1 hD1
                          replace hK := (hK.sub (tys' := [(k_sa, .byte), (k_ru, .int)]) [0, 1] rfl).app hK1
                          generalize H1 = H at hP hS ⊢
                          replace hP := hP.sub (ws' := [(a_m, .inr (5, [.int v_th, .ref a_sa, .int v_sz, .int a, .int a, .ref a_ru, .ref a_me, .ref a_le, .int v_n, .ref a_cl, .ref a_te, .ref a_ki, .ref a_ty, .ref a_bl, .ref a_ex, .ref a_lo, .int v_nl, .ref a_ho, .ref a_fi, .int v_nf, .ref a_cz, .int v_nc])), (a_sa, .inl (k_sa, 120, .inl f_sa)), (a_ru, .inl (k_ru, 410, .inl R))]) [2, 0, 1] rfl
                          replace hD := hD.sub (ws' := [(a_m, .inr (5, [.int v_th, .ref a_sa, .int v_sz, .int a, .int a, .ref a_ru, .ref a_me, .ref a_le, .int v_n, .ref a_cl, .ref a_te, .ref a_ki, .ref a_ty, .ref a_bl, .ref a_ex, .ref a_lo, .int v_nl, .ref a_ho, .ref a_fi, .int v_nf, .ref a_cz, .int v_nc])), (a_sa, .inl (k_sa, 120, .inl f_sa)), (a_ru, .inl (k_ru, 410, .inl R))]) [2, 0, 1] (by decide) rfl
                          replace hK := hK.sub (tys' := [(k_sa, .byte), (k_ru, .int)]) [0, 1] rfl
                          have hP9 := hP.sub (ws' := [(a_m, .inr (5, [.int v_th, .ref a_sa, .int v_sz, .int a, .int a, .ref a_ru, .ref a_me, .ref a_le, .int v_n, .ref a_cl, .ref a_te, .ref a_ki, .ref a_ty, .ref a_bl, .ref a_ex, .ref a_lo, .int v_nl, .ref a_ho, .ref a_fi, .int v_nf, .ref a_cz, .int v_nc])), (a_sa, .inl (k_sa, 120, .inl f_sa)), (a_ru, .inl (k_ru, 410, .inl R))]) [0, 1, 2] rfl
                          have hD9 := hD.sub (ws' := [(a_m, .inr (5, [.int v_th, .ref a_sa, .int v_sz, .int a, .int a, .ref a_ru, .ref a_me, .ref a_le, .int v_n, .ref a_cl, .ref a_te, .ref a_ki, .ref a_ty, .ref a_bl, .ref a_ex, .ref a_lo, .int v_nl, .ref a_ho, .ref a_fi, .int v_nf, .ref a_cz, .int v_nc])), (a_sa, .inl (k_sa, 120, .inl f_sa)), (a_ru, .inl (k_ru, 410, .inl R))]) [0, 1, 2] (by decide) rfl
                          have hK9 := hK.sub (tys' := [(k_sa, .byte), (k_ru, .int)]) [0, 1] rfl
                          exact W.zret (v := 0) hx hb hr rfl (fun t ht hW => ⟨⟨0, (), rfl, by rw [← hz, hE], by rw [ht, ← hz, hE]; exact hP9, va_K.moved hW.alike hK9, by rw [← hz, hE]; exact hD9⟩, hS.F ht⟩) hS.2.2 d_M_reads_160
                        · refine lv_iload_n hx hb d_M_reads_148 rfl (lv_at hl 0 rfl) ?_
                          refine lv_if_ne (tgt := 161) hx hb d_M_reads_149 (by decide) (fun c_211 => ?_) (fun c_211 => ?_)
                          · exact absurd (by decide) c_211
                          · subst hg_rd1
                            dsimp only at hE
                            rw [if_neg (by decide)] at hE
                            rw [if_neg (by decide)] at hE
                            rw [if_pos rfl] at hE
                            refine lv_aload_n hx hb d_M_reads_152 rfl (lv_at hl 3 rfl) ?_
                            refine lv_aload_n hx hb d_M_reads_153 rfl (lv_at hl 3 rfl) ?_
                            refine va_get (D := (dC, dI)) (ci := 5) (v := .int a) (C := "LoanRulesModel") (T := Fz_M) (N := 22) hx hb hts it_M hown hK hP 0 rfl rfl 3 (by decide) (hts _ tw_604) (fun _ h9 => h9) rfl d_M_reads_154 ?_
                            have hPc := hP.sub (ws' := [(a_m, .inr (5, [.int v_th, .ref a_sa, .int v_sz, .int a, .int wr, .ref a_ru, .ref a_me, .ref a_le, .int v_n, .ref a_cl, .ref a_te, .ref a_ki, .ref a_ty, .ref a_bl, .ref a_ex, .ref a_lo, .int v_nl, .ref a_ho, .ref a_fi, .int v_nf, .ref a_cz, .int v_nc]))]) [0] rfl
                            have hKc := hK.sub (tys' := []) [] rfl
                            have hDc := hD.sub (ws' := [(a_m, .inr (5, [.int v_th, .ref a_sa, .int v_sz, .int a, .int wr, .ref a_ru, .ref a_me, .ref a_le, .int v_n, .ref a_cl, .ref a_te, .ref a_ki, .ref a_ty, .ref a_bl, .ref a_ex, .ref a_lo, .int v_nl, .ref a_ho, .ref a_fi, .int v_nf, .ref a_cz, .int v_nc]))]) [0] (by decide) rfl
                            have hFc := va_free (wc := [(a_m, .inr (5, [.int v_th, .ref a_sa, .int v_sz, .int a, .int wr, .ref a_ru, .ref a_me, .ref a_le, .int v_n, .ref a_cl, .ref a_te, .ref a_ki, .ref a_ty, .ref a_bl, .ref a_ex, .ref a_lo, .int v_nl, .ref a_ho, .ref a_fi, .int v_nf, .ref a_cz, .int v_nc]))]) hD hS hA [0] rfl
                            refine va_calli (va_runV (As := [.int a]) (rest := []) ⟨hx, hb, hml, hown, hts⟩ (c_Mg_bad l dC dI adK adV (a_m := a_m) (p0 := a) (v_th := v_th) (a_sa := a_sa) (v_sz := v_sz) (v_at := a) (v_wr := wr) (a_ru := a_ru) (a_me := a_me) (a_le := a_le) (v_n := v_n) (a_cl := a_cl) (a_te := a_te) (a_ki := a_ki) (a_ty := a_ty) (a_bl := a_bl) (a_ex := a_ex) (a_lo := a_lo) (v_nl := v_nl) (a_ho := a_ho) (a_fi := a_fi) (v_nf := v_nf) (a_cz := a_cz) (v_nc := v_nc) (sz := H.size)) (cwV 1 hts (gV tw_688 tw_690 tw_28 tw_46 tw_691) rfl rfl rfl (by decide +kernel) ⟨(Nat.le_of_ble_eq_true rfl), (Nat.le_of_ble_eq_true rfl)⟩) ⟨fun a U g mk q => by obtain ⟨q0, q1, qZ, qP, qK, qD⟩ := q; exact ⟨q0, q1, zz_call qZ, qP, va_K.moved (u := U) (U := U.calling g mk a) (Vm.Alike.refl U.vm) qK, qD⟩, va_recv hKc hPc (ci := 5) (q0 := 0) rfl rfl, fun U hU hW => ⟨rfl, by rw [hU], zz_rw hS hFc hU hW hZ, by rw [hU]; exact hPc, va_K.moved hW.alike hKc, hDc.weaken (fun _ _ _ _ => trivial)⟩⟩ rfl rfl hl.1 rfl (lv_room (Nat.le_of_ble_eq_true rfl)) d_M_reads_157 ⟨(Nat.le_of_ble_eq_true rfl), (Nat.le_of_ble_eq_true rfl)⟩) hS (fun q _ h => hFc q h) hFc (fun r_212 u t H1 locs ht hvm hw_213 hB hz1 hk1 hS => ?_)
                            obtain ⟨hP1, hK1, hD1⟩ := hB
                            rw [ht] at hP1
                            have hK1 := va_K.moved hvm.symm hK1
                            obtain rfl : r_212 = 0 := hw_213
                            obtain ⟨hP, hD⟩ := va_join (wr := [(a_sa, .inl (k_sa, 120, .inl f_sa)), (a_ru, .inl (k_ru, 410, .inl R))]) (w1 := [(a_m, .inr (5, [.int v_th, .ref a_sa, .int v_sz, .int a, .int a, .ref a_ru, .ref a_me, .ref a_le, .int v_n, .ref a_cl, .ref a_te, .ref a_ki, .ref a_ty, .ref a_bl, .ref a_ex, .ref a_lo, .int v_nl, .ref a_ho, .ref a_fi, .int v_nf, .ref a_cz, .int v_nc]))]) hP hD [0] [1, 2] rfl rfl (by decide) (by decide) hk1 hFc hP1 hD1
                            replace hK := (hK.sub (tys' := [(k_sa, .byte), (k_ru, .int)]) [0, 1] rfl).app hK1
                            generalize H1 = H at hP hS ⊢
                            replace hP := hP.sub (ws' := [(a_m, .inr (5, [.int v_th, .ref a_sa, .int v_sz, .int a, .int a, .ref a_ru, .ref a_me, .ref a_le, .int v_n, .ref a_cl, .ref a_te, .ref a_ki, .ref a_ty, .ref a_bl, .ref a_ex, .ref a_lo, .int v_nl, .ref a_ho, .ref a_fi, .int v_nf, .ref a_cz, .int v_nc])), (a_sa, .inl (k_sa, 120, .inl f_sa)), (a_ru, .inl (k_ru, 410, .inl R))]) [2, 0, 1] rfl
                            replace hD := hD.sub (ws' := [(a_m, .inr (5, [.int v_th, .ref a_sa, .int v_sz, .int a, .int a, .ref a_ru, .ref a_me, .ref a_le, .int v_n, .ref a_cl, .ref a_te, .ref a_ki, .ref a_ty, .ref a_bl, .ref a_ex, .ref a_lo, .int v_nl, .ref a_ho, .ref a_fi, .int v_nf, .ref a_cz, .int v_nc])), (a_sa, .inl (k_sa, 120, .inl f_sa)), (a_ru, .inl (k_ru, 410, .inl R))]) [2, 0, 1] (by decide) rfl
                            replace hK := hK.sub (tys' := [(k_sa, .byte), (k_ru, .int)]) [0, 1] rfl
                            have hP9 := hP.sub (ws' := [(a_m, .inr (5, [.int v_th, .ref a_sa, .int v_sz, .int a, .int a, .ref a_ru, .ref a_me, .ref a_le, .int v_n, .ref a_cl, .ref a_te, .ref a_ki, .ref a_ty, .ref a_bl, .ref a_ex, .ref a_lo, .int v_nl, .ref a_ho, .ref a_fi, .int v_nf, .ref a_cz, .int v_nc])), (a_sa, .inl (k_sa, 120, .inl f_sa)), (a_ru, .inl (k_ru, 410, .inl R))]) [0, 1, 2] rfl
                            have hD9 := hD.sub (ws' := [(a_m, .inr (5, [.int v_th, .ref a_sa, .int v_sz, .int a, .int a, .ref a_ru, .ref a_me, .ref a_le, .int v_n, .ref a_cl, .ref a_te, .ref a_ki, .ref a_ty, .ref a_bl, .ref a_ex, .ref a_lo, .int v_nl, .ref a_ho, .ref a_fi, .int v_nf, .ref a_cz, .int v_nc])), (a_sa, .inl (k_sa, 120, .inl f_sa)), (a_ru, .inl (k_ru, 410, .inl R))]) [0, 1, 2] (by decide) rfl
                            have hK9 := hK.sub (tys' := [(k_sa, .byte), (k_ru, .int)]) [0, 1] rfl
                            exact W.zret (v := 0) hx hb hr rfl (fun t ht hW => ⟨⟨0, (), rfl, by rw [← hz, hE], by rw [ht, ← hz, hE]; exact hP9, va_K.moved hW.alike hK9, by rw [← hz, hE]; exact hD9⟩, hS.F ht⟩) hS.2.2 d_M_reads_160
                      · rw [if_neg c_207] at hg_rd1
                        refine lv_iconst (v := 1) hx hb d_M_reads_138 (by decide) ?_
                        refine lv_goto (tgt := 143) hx hb d_M_reads_139 (by decide) ?_
                        refine lv_istore_n (lv' := [(3, .int 1), (2, .int (g_Mg_step (g_Mg_word v_sz a f_sa))), (1, .int la), (0, .ref a_m)]) hx hb d_M_reads_143 rfl hl (by decide) rfl (fun ls hl => ?_)
                        refine lv_iload_n hx hb d_M_reads_144 rfl (lv_at hl 1 rfl) ?_
                        refine lv_if_eq (tgt := 152) hx hb d_M_reads_145 (by decide) (fun c_214 => ?_) (fun c_214 => ?_)
                        · rw [if_pos c_214] at hg_rd1
                          subst hg_rd1
                          dsimp only at hE
                          rw [if_neg (by decide)] at hE
                          rw [if_neg (by decide)] at hE
                          rw [if_pos rfl] at hE
                          refine lv_aload_n hx hb d_M_reads_152 rfl (lv_at hl 3 rfl) ?_
                          refine lv_aload_n hx hb d_M_reads_153 rfl (lv_at hl 3 rfl) ?_
                          refine va_get (D := (dC, dI)) (ci := 5) (v := .int a) (C := "LoanRulesModel") (T := Fz_M) (N := 22) hx hb hts it_M hown hK hP 0 rfl rfl 3 (by decide) (hts _ tw_604) (fun _ h9 => h9) rfl d_M_reads_154 ?_
                          have hPc := hP.sub (ws' := [(a_m, .inr (5, [.int v_th, .ref a_sa, .int v_sz, .int a, .int wr, .ref a_ru, .ref a_me, .ref a_le, .int v_n, .ref a_cl, .ref a_te, .ref a_ki, .ref a_ty, .ref a_bl, .ref a_ex, .ref a_lo, .int v_nl, .ref a_ho, .ref a_fi, .int v_nf, .ref a_cz, .int v_nc]))]) [0] rfl
                          have hKc := hK.sub (tys' := []) [] rfl
                          have hDc := hD.sub (ws' := [(a_m, .inr (5, [.int v_th, .ref a_sa, .int v_sz, .int a, .int wr, .ref a_ru, .ref a_me, .ref a_le, .int v_n, .ref a_cl, .ref a_te, .ref a_ki, .ref a_ty, .ref a_bl, .ref a_ex, .ref a_lo, .int v_nl, .ref a_ho, .ref a_fi, .int v_nf, .ref a_cz, .int v_nc]))]) [0] (by decide) rfl
                          have hFc := va_free (wc := [(a_m, .inr (5, [.int v_th, .ref a_sa, .int v_sz, .int a, .int wr, .ref a_ru, .ref a_me, .ref a_le, .int v_n, .ref a_cl, .ref a_te, .ref a_ki, .ref a_ty, .ref a_bl, .ref a_ex, .ref a_lo, .int v_nl, .ref a_ho, .ref a_fi, .int v_nf, .ref a_cz, .int v_nc]))]) hD hS hA [0] rfl
                          refine va_calli (va_runV (As := [.int a]) (rest := []) ⟨hx, hb, hml, hown, hts⟩ (c_Mg_bad l dC dI adK adV (a_m := a_m) (p0 := a) (v_th := v_th) (a_sa := a_sa) (v_sz := v_sz) (v_at := a) (v_wr := wr) (a_ru := a_ru) (a_me := a_me) (a_le := a_le) (v_n := v_n) (a_cl := a_cl) (a_te := a_te) (a_ki := a_ki) (a_ty := a_ty) (a_bl := a_bl) (a_ex := a_ex) (a_lo := a_lo) (v_nl := v_nl) (a_ho := a_ho) (a_fi := a_fi) (v_nf := v_nf) (a_cz := a_cz) (v_nc := v_nc) (sz := H.size)) (cwV 1 hts (gV tw_688 tw_690 tw_28 tw_46 tw_691) rfl rfl rfl (by decide +kernel) ⟨(Nat.le_of_ble_eq_true rfl), (Nat.le_of_ble_eq_true rfl)⟩) ⟨fun a U g mk q => by obtain ⟨q0, q1, qZ, qP, qK, qD⟩ := q; exact ⟨q0, q1, zz_call qZ, qP, va_K.moved (u := U) (U := U.calling g mk a) (Vm.Alike.refl U.vm) qK, qD⟩, va_recv hKc hPc (ci := 5) (q0 := 0) rfl rfl, fun U hU hW => ⟨rfl, by rw [hU], zz_rw hS hFc hU hW hZ, by rw [hU]; exact hPc, va_K.moved hW.alike hKc, hDc.weaken (fun _ _ _ _ => trivial)⟩⟩ rfl rfl hl.1 rfl (lv_room (Nat.le_of_ble_eq_true rfl)) d_M_reads_157 ⟨(Nat.le_of_ble_eq_true rfl), (Nat.le_of_ble_eq_true rfl)⟩) hS (fun q _ h => hFc q h) hFc (fun r_215 u t H1 locs ht hvm hw_216 hB hz1 hk1 hS => ?_)
                          obtain ⟨hP1, hK1, hD1⟩ := hB
                          rw [ht] at hP1
                          have hK1 := va_K.moved hvm.symm hK1
                          obtain rfl : r_215 = 0 := hw_216
                          obtain ⟨hP, hD⟩ := va_join (wr := [(a_sa, .inl (k_sa, 120, .inl f_sa)), (a_ru, .inl (k_ru, 410, .inl R))]) (w1 := [(a_m, .inr (5, [.int v_th, .ref a_sa, .int v_sz, .int a, .int a, .ref a_ru, .ref a_me, .ref a_le, .int v_n, .ref a_cl, .ref a_te, .ref a_ki, .ref a_ty, .ref a_bl, .ref a_ex, .ref a_lo, .int v_nl, .ref a_ho, .ref a_fi, .int v_nf, .ref a_cz, .int v_nc]))]) hP hD [0] [1, 2] rfl rfl (by decide) (by decide) hk1 hFc hP1 hD1
                          replace hK := (hK.sub (tys' := [(k_sa, .byte), (k_ru, .int)]) [0, 1] rfl).app hK1
                          generalize H1 = H at hP hS ⊢
                          replace hP := hP.sub (ws' := [(a_m, .inr (5, [.int v_th, .ref a_sa, .int v_sz, .int a, .int a, .ref a_ru, .ref a_me, .ref a_le, .int v_n, .ref a_cl, .ref a_te, .ref a_ki, .ref a_ty, .ref a_bl, .ref a_ex, .ref a_lo, .int v_nl, .ref a_ho, .ref a_fi, .int v_nf, .ref a_cz, .int v_nc])), (a_sa, .inl (k_sa, 120, .inl f_sa)), (a_ru, .inl (k_ru, 410, .inl R))]) [2, 0, 1] rfl
                          replace hD := hD.sub (ws' := [(a_m, .inr (5, [.int v_th, .ref a_sa, .int v_sz, .int a, .int a, .ref a_ru, .ref a_me, .ref a_le, .int v_n, .ref a_cl, .ref a_te, .ref a_ki, .ref a_ty, .ref a_bl, .ref a_ex, .ref a_lo, .int v_nl, .ref a_ho, .ref a_fi, .int v_nf, .ref a_cz, .int v_nc])), (a_sa, .inl (k_sa, 120, .inl f_sa)), (a_ru, .inl (k_ru, 410, .inl R))]) [2, 0, 1] (by decide) rfl
                          replace hK := hK.sub (tys' := [(k_sa, .byte), (k_ru, .int)]) [0, 1] rfl
                          have hP9 := hP.sub (ws' := [(a_m, .inr (5, [.int v_th, .ref a_sa, .int v_sz, .int a, .int a, .ref a_ru, .ref a_me, .ref a_le, .int v_n, .ref a_cl, .ref a_te, .ref a_ki, .ref a_ty, .ref a_bl, .ref a_ex, .ref a_lo, .int v_nl, .ref a_ho, .ref a_fi, .int v_nf, .ref a_cz, .int v_nc])), (a_sa, .inl (k_sa, 120, .inl f_sa)), (a_ru, .inl (k_ru, 410, .inl R))]) [0, 1, 2] rfl
                          have hD9 := hD.sub (ws' := [(a_m, .inr (5, [.int v_th, .ref a_sa, .int v_sz, .int a, .int a, .ref a_ru, .ref a_me, .ref a_le, .int v_n, .ref a_cl, .ref a_te, .ref a_ki, .ref a_ty, .ref a_bl, .ref a_ex, .ref a_lo, .int v_nl, .ref a_ho, .ref a_fi, .int v_nf, .ref a_cz, .int v_nc])), (a_sa, .inl (k_sa, 120, .inl f_sa)), (a_ru, .inl (k_ru, 410, .inl R))]) [0, 1, 2] (by decide) rfl
                          have hK9 := hK.sub (tys' := [(k_sa, .byte), (k_ru, .int)]) [0, 1] rfl
                          exact W.zret (v := 0) hx hb hr rfl (fun t ht hW => ⟨⟨0, (), rfl, by rw [← hz, hE], by rw [ht, ← hz, hE]; exact hP9, va_K.moved hW.alike hK9, by rw [← hz, hE]; exact hD9⟩, hS.F ht⟩) hS.2.2 d_M_reads_160
                        · rw [if_neg c_214] at hg_rd1
                          refine lv_iload_n hx hb d_M_reads_148 rfl (lv_at hl 0 rfl) ?_
                          refine lv_if_ne (tgt := 161) hx hb d_M_reads_149 (by decide) (fun c_217 => ?_) (fun c_217 => ?_)
                          · refine lv_aload_n hx hb d_M_reads_161 rfl (lv_at hl 3 rfl) ?_
                            have hPc := hP.sub (ws' := [(a_m, .inr (5, [.int v_th, .ref a_sa, .int v_sz, .int a, .int wr, .ref a_ru, .ref a_me, .ref a_le, .int v_n, .ref a_cl, .ref a_te, .ref a_ki, .ref a_ty, .ref a_bl, .ref a_ex, .ref a_lo, .int v_nl, .ref a_ho, .ref a_fi, .int v_nf, .ref a_cz, .int v_nc])), (a_sa, .inl (k_sa, 120, .inl f_sa))]) [0, 1] rfl
                            have hKc := hK.sub (tys' := [(k_sa, .byte)]) [0] rfl
                            have hDc := hD.sub (ws' := [(a_m, .inr (5, [.int v_th, .ref a_sa, .int v_sz, .int a, .int wr, .ref a_ru, .ref a_me, .ref a_le, .int v_n, .ref a_cl, .ref a_te, .ref a_ki, .ref a_ty, .ref a_bl, .ref a_ex, .ref a_lo, .int v_nl, .ref a_ho, .ref a_fi, .int v_nf, .ref a_cz, .int v_nc])), (a_sa, .inl (k_sa, 120, .inl f_sa))]) [0, 1] (by decide) rfl
                            have hFc := va_free (wc := [(a_m, .inr (5, [.int v_th, .ref a_sa, .int v_sz, .int a, .int wr, .ref a_ru, .ref a_me, .ref a_le, .int v_n, .ref a_cl, .ref a_te, .ref a_ki, .ref a_ty, .ref a_bl, .ref a_ex, .ref a_lo, .int v_nl, .ref a_ho, .ref a_fi, .int v_nf, .ref a_cz, .int v_nc])), (a_sa, .inl (k_sa, 120, .inl f_sa))]) hD hS hA [0, 1] rfl
                            refine va_callv (va_runV (As := []) (rest := []) ⟨hx, hb, hml, hown, hts⟩ (c_Mg_pass l dC dI adK adV (a_m := a_m) (v_th := v_th) (a_sa := a_sa) (v_sz := v_sz) (v_at := a) (v_wr := wr) (a_ru := a_ru) (a_me := a_me) (a_le := a_le) (v_n := v_n) (a_cl := a_cl) (a_te := a_te) (a_ki := a_ki) (a_ty := a_ty) (a_bl := a_bl) (a_ex := a_ex) (a_lo := a_lo) (v_nl := v_nl) (a_ho := a_ho) (a_fi := a_fi) (v_nf := v_nf) (a_cz := a_cz) (v_nc := v_nc) (k_sa := k_sa) (f_sa := f_sa) (sz := H.size) hsz ha) (cwV 0 hts (gV tw_712 tw_714 tw_30 tw_46 tw_715) rfl rfl rfl (by decide +kernel) ⟨(Nat.le_of_ble_eq_true rfl), (Nat.le_of_ble_eq_true rfl)⟩) ⟨fun a U g mk q => by obtain ⟨q0, q1, qZ, qP, qK, qD⟩ := q; exact ⟨q0, q1, zz_call qZ, qP, va_K.moved (u := U) (U := U.calling g mk a) (Vm.Alike.refl U.vm) qK, qD⟩, va_recv hKc hPc (ci := 5) (q0 := 0) rfl rfl, fun U hU hW => ⟨rfl, by rw [hU], zz_rw hS hFc hU hW hZ, by rw [hU]; exact hPc, va_K.moved hW.alike hKc, hDc.weaken (fun _ _ _ _ => trivial)⟩⟩ rfl rfl hl.1 rfl (lv_room (Nat.le_of_ble_eq_true rfl)) d_M_reads_162 ⟨(Nat.le_of_ble_eq_true rfl), (Nat.le_of_ble_eq_true rfl)⟩) hS (fun q _ h => hFc q h) hFc (fun u t H1 locs ht hvm hw_218 hB hz1 hk1 hS => ?_)
                            generalize hg_x_219 : g_Mg_pass v_sz a f_sa = x_219 at hw_218 hB hg_rd1
                            rw [bv_eq] at hg_rd1
                            obtain ⟨hP1, hK1, hD1⟩ := hB
                            rw [ht] at hP1
                            have hK1 := va_K.moved hvm.symm hK1
                            obtain ⟨hP, hD⟩ := va_join (wr := [(a_ru, .inl (k_ru, 410, .inl R))]) (w1 := [(a_m, .inr (5, [.int v_th, .ref a_sa, .int v_sz, .int x_219, .int wr, .ref a_ru, .ref a_me, .ref a_le, .int v_n, .ref a_cl, .ref a_te, .ref a_ki, .ref a_ty, .ref a_bl, .ref a_ex, .ref a_lo, .int v_nl, .ref a_ho, .ref a_fi, .int v_nf, .ref a_cz, .int v_nc])), (a_sa, .inl (k_sa, 120, .inl f_sa))]) hP hD [0, 1] [2] rfl rfl (by decide) (by decide) hk1 hFc hP1 hD1
                            replace hK := (hK.sub (tys' := [(k_ru, .int)]) [1] rfl).app hK1
                            generalize H1 = H at hP hS ⊢
                            replace hP := hP.sub (ws' := [(a_m, .inr (5, [.int v_th, .ref a_sa, .int v_sz, .int x_219, .int wr, .ref a_ru, .ref a_me, .ref a_le, .int v_n, .ref a_cl, .ref a_te, .ref a_ki, .ref a_ty, .ref a_bl, .ref a_ex, .ref a_lo, .int v_nl, .ref a_ho, .ref a_fi, .int v_nf, .ref a_cz, .int v_nc])), (a_sa, .inl (k_sa, 120, .inl f_sa)), (a_ru, .inl (k_ru, 410, .inl R))]) [1, 2, 0] rfl
                            replace hD := hD.sub (ws' := [(a_m, .inr (5, [.int v_th, .ref a_sa, .int v_sz, .int x_219, .int wr, .ref a_ru, .ref a_me, .ref a_le, .int v_n, .ref a_cl, .ref a_te, .ref a_ki, .ref a_ty, .ref a_bl, .ref a_ex, .ref a_lo, .int v_nl, .ref a_ho, .ref a_fi, .int v_nf, .ref a_cz, .int v_nc])), (a_sa, .inl (k_sa, 120, .inl f_sa)), (a_ru, .inl (k_ru, 410, .inl R))]) [1, 2, 0] (by decide) rfl
                            replace hK := hK.sub (tys' := [(k_sa, .byte), (k_ru, .int)]) [1, 0] rfl
                            refine lv_aload_n hx hb d_M_reads_165 rfl (lv_at hl 3 rfl) ?_
                            refine lv_iload_n hx hb d_M_reads_166 rfl (lv_at hl 1 rfl) ?_
                            have hPc := hP.sub (ws' := [(a_m, .inr (5, [.int v_th, .ref a_sa, .int v_sz, .int x_219, .int wr, .ref a_ru, .ref a_me, .ref a_le, .int v_n, .ref a_cl, .ref a_te, .ref a_ki, .ref a_ty, .ref a_bl, .ref a_ex, .ref a_lo, .int v_nl, .ref a_ho, .ref a_fi, .int v_nf, .ref a_cz, .int v_nc])), (a_sa, .inl (k_sa, 120, .inl f_sa)), (a_ru, .inl (k_ru, 410, .inl R))]) [0, 1, 2] rfl
                            have hKc := hK.sub (tys' := [(k_sa, .byte), (k_ru, .int)]) [0, 1] rfl
                            have hDc := hD.sub (ws' := [(a_m, .inr (5, [.int v_th, .ref a_sa, .int v_sz, .int x_219, .int wr, .ref a_ru, .ref a_me, .ref a_le, .int v_n, .ref a_cl, .ref a_te, .ref a_ki, .ref a_ty, .ref a_bl, .ref a_ex, .ref a_lo, .int v_nl, .ref a_ho, .ref a_fi, .int v_nf, .ref a_cz, .int v_nc])), (a_sa, .inl (k_sa, 120, .inl f_sa)), (a_ru, .inl (k_ru, 410, .inl R))]) [0, 1, 2] (by decide) rfl
                            have hFc := va_free (wc := [(a_m, .inr (5, [.int v_th, .ref a_sa, .int v_sz, .int x_219, .int wr, .ref a_ru, .ref a_me, .ref a_le, .int v_n, .ref a_cl, .ref a_te, .ref a_ki, .ref a_ty, .ref a_bl, .ref a_ex, .ref a_lo, .int v_nl, .ref a_ho, .ref a_fi, .int v_nf, .ref a_cz, .int v_nc])), (a_sa, .inl (k_sa, 120, .inl f_sa)), (a_ru, .inl (k_ru, 410, .inl R))]) hD hS hA [0, 1, 2] rfl
                            refine va_calli (va_runV (As := [.int (g_Mg_step (g_Mg_word v_sz a f_sa))]) (rest := []) ⟨hx, hb, hml, hown, hts⟩ (c_Mg_one l dC dI adK adV (a_m := a_m) (p0 := g_Mg_step (g_Mg_word v_sz a f_sa)) (v_th := v_th) (a_sa := a_sa) (v_sz := v_sz) (v_at := x_219) (v_wr := wr) (a_ru := a_ru) (a_me := a_me) (a_le := a_le) (v_n := v_n) (a_cl := a_cl) (a_te := a_te) (a_ki := a_ki) (a_ty := a_ty) (a_bl := a_bl) (a_ex := a_ex) (a_lo := a_lo) (v_nl := v_nl) (a_ho := a_ho) (a_fi := a_fi) (v_nf := v_nf) (a_cz := a_cz) (v_nc := v_nc) (k_sa := k_sa) (f_sa := f_sa) (k_ru := k_ru) (f_ru := R) (sz := H.size) hsz (hg_x_219 ▸ pass_at hsz ha) hn) (cwV 1 hts (gV tw_716 tw_718 tw_31 tw_46 tw_719) rfl rfl rfl (by decide +kernel) ⟨(Nat.le_of_ble_eq_true rfl), (Nat.le_of_ble_eq_true rfl)⟩) ⟨fun a U g mk q => by obtain ⟨q0, q1, qZ, qP, qK, qD⟩ := q; exact ⟨q0, q1, zz_call qZ, qP, va_K.moved (u := U) (U := U.calling g mk a) (Vm.Alike.refl U.vm) qK, qD⟩, va_recv hKc hPc (ci := 5) (q0 := 0) rfl rfl, fun U hU hW => ⟨rfl, by rw [hU], zz_rw hS hFc hU hW hZ, by rw [hU]; exact hPc, va_K.moved hW.alike hKc, hDc.weaken (fun _ _ _ _ => trivial)⟩⟩ rfl rfl hl.1 rfl (lv_room (Nat.le_of_ble_eq_true rfl)) d_M_reads_167 ⟨(Nat.le_of_ble_eq_true rfl), (Nat.le_of_ble_eq_true rfl)⟩) hS (fun q _ h => hFc q h) hFc (fun r_220 u t H1 locs ht hvm hw_221 hB hz1 hk1 hS => ?_)
                            generalize hg_x_222 : g_Mg_one (g_Mg_step (g_Mg_word v_sz a f_sa)) v_sz x_219 wr v_n f_sa R = x_222 at hw_221 hB hg_rd1
                            rw [bv_eq] at hg_rd1
                            obtain ⟨hP1, hK1, hD1⟩ := hB
                            rw [ht] at hP1
                            have hK1 := va_K.moved hvm.symm hK1
                            obtain rfl : r_220 = x_222.1 := hw_221
                            obtain ⟨hP, hD⟩ := va_join (wr := []) (w1 := [(a_m, .inr (5, [.int v_th, .ref a_sa, .int v_sz, .int x_222.2.1, .int x_222.2.2.1, .ref a_ru, .ref a_me, .ref a_le, .int v_n, .ref a_cl, .ref a_te, .ref a_ki, .ref a_ty, .ref a_bl, .ref a_ex, .ref a_lo, .int v_nl, .ref a_ho, .ref a_fi, .int v_nf, .ref a_cz, .int v_nc])), (a_sa, .inl (k_sa, 120, .inl f_sa)), (a_ru, .inl (k_ru, 410, .inl x_222.2.2.2))]) hP hD [0, 1, 2] [] rfl rfl (by decide) (by decide) hk1 hFc hP1 hD1
                            replace hK := (hK.sub (tys' := []) [] rfl).app hK1
                            generalize H1 = H at hP hS ⊢
                            replace hP := hP.sub (ws' := [(a_m, .inr (5, [.int v_th, .ref a_sa, .int v_sz, .int x_222.2.1, .int x_222.2.2.1, .ref a_ru, .ref a_me, .ref a_le, .int v_n, .ref a_cl, .ref a_te, .ref a_ki, .ref a_ty, .ref a_bl, .ref a_ex, .ref a_lo, .int v_nl, .ref a_ho, .ref a_fi, .int v_nf, .ref a_cz, .int v_nc])), (a_sa, .inl (k_sa, 120, .inl f_sa)), (a_ru, .inl (k_ru, 410, .inl x_222.2.2.2))]) [0, 1, 2] rfl
                            replace hD := hD.sub (ws' := [(a_m, .inr (5, [.int v_th, .ref a_sa, .int v_sz, .int x_222.2.1, .int x_222.2.2.1, .ref a_ru, .ref a_me, .ref a_le, .int v_n, .ref a_cl, .ref a_te, .ref a_ki, .ref a_ty, .ref a_bl, .ref a_ex, .ref a_lo, .int v_nl, .ref a_ho, .ref a_fi, .int v_nf, .ref a_cz, .int v_nc])), (a_sa, .inl (k_sa, 120, .inl f_sa)), (a_ru, .inl (k_ru, 410, .inl x_222.2.2.2))]) [0, 1, 2] (by decide) rfl
                            replace hK := hK.sub (tys' := [(k_sa, .byte), (k_ru, .int)]) [0, 1] rfl
                            refine lv_if_ne (tgt := 175) hx hb d_M_reads_170 (by decide) (fun c_223 => ?_) (fun c_223 => ?_)
                            · rw [if_neg c_223] at hg_rd1
                              refine lv_iload_n hx hb d_M_reads_175 rfl (lv_at hl 1 rfl) ?_
                              refine lv_istore_n (lv' := [(1, .int (g_Mg_step (g_Mg_word v_sz a f_sa))), (3, .int 1), (2, .int (g_Mg_step (g_Mg_word v_sz a f_sa))), (0, .ref a_m)]) hx hb d_M_reads_176 rfl hl (by decide) rfl (fun ls hl => ?_)
                              refine lv_goto (tgt := 56) hx hb d_M_reads_177 (by decide) ?_
                              exact ih_rd1 _ _ _ _ _ _ _ ⟨hP, hD, hS, lv_sub hl [0, 3] rfl, ((hg_x_222 ▸ one_at hsz (hg_x_219 ▸ pass_at hsz ha))), (step_le _), (li_mt hla c_180 (step_le _) hm_rd1), hg_rd1⟩
                            · rw [if_pos c_223] at hg_rd1
                              subst hg_rd1
                              dsimp only at hE
                              rw [if_neg (by decide)] at hE
                              rw [if_neg (by decide)] at hE
                              rw [if_neg (by decide)] at hE
                              refine lv_iconst (v := 0) hx hb d_M_reads_173 (by decide) ?_
                              have hP9 := hP.sub (ws' := [(a_m, .inr (5, [.int v_th, .ref a_sa, .int v_sz, .int x_222.2.1, .int x_222.2.2.1, .ref a_ru, .ref a_me, .ref a_le, .int v_n, .ref a_cl, .ref a_te, .ref a_ki, .ref a_ty, .ref a_bl, .ref a_ex, .ref a_lo, .int v_nl, .ref a_ho, .ref a_fi, .int v_nf, .ref a_cz, .int v_nc])), (a_sa, .inl (k_sa, 120, .inl f_sa)), (a_ru, .inl (k_ru, 410, .inl x_222.2.2.2))]) [0, 1, 2] rfl
                              have hD9 := hD.sub (ws' := [(a_m, .inr (5, [.int v_th, .ref a_sa, .int v_sz, .int x_222.2.1, .int x_222.2.2.1, .ref a_ru, .ref a_me, .ref a_le, .int v_n, .ref a_cl, .ref a_te, .ref a_ki, .ref a_ty, .ref a_bl, .ref a_ex, .ref a_lo, .int v_nl, .ref a_ho, .ref a_fi, .int v_nf, .ref a_cz, .int v_nc])), (a_sa, .inl (k_sa, 120, .inl f_sa)), (a_ru, .inl (k_ru, 410, .inl x_222.2.2.2))]) [0, 1, 2] (by decide) rfl
                              have hK9 := hK.sub (tys' := [(k_sa, .byte), (k_ru, .int)]) [0, 1] rfl
                              exact W.zret (v := 0) hx hb hr rfl (fun t ht hW => ⟨⟨0, (), rfl, by rw [← hz, hE], by rw [ht, ← hz, hE]; exact hP9, va_K.moved hW.alike hK9, by rw [← hz, hE]; exact hD9⟩, hS.F ht⟩) hS.2.2 d_M_reads_174
                          · exact absurd c_217 (by decide)
                    · rw [if_pos c_206] at hg_rd1
                      refine lv_iload_n hx hb d_M_reads_123 rfl (lv_at hl 0 rfl) ?_
                      refine lv_bipush (v := 10) hx hb d_M_reads_124 (by decide) ?_
                      refine lv_icmp_ne (tgt := 142) hx hb d_M_reads_126 (by decide) (fun c_224 => ?_) (fun c_224 => ?_)
                      · rw [if_neg c_224] at hg_rd1
                        refine lv_iconst (v := 0) hx hb d_M_reads_142 (by decide) ?_
                        refine lv_istore_n (lv' := [(3, .int 0), (2, .int (g_Mg_step (g_Mg_word v_sz a f_sa))), (1, .int la), (0, .ref a_m)]) hx hb d_M_reads_143 rfl hl (by decide) rfl (fun ls hl => ?_)
                        refine lv_iload_n hx hb d_M_reads_144 rfl (lv_at hl 1 rfl) ?_
                        refine lv_if_eq (tgt := 152) hx hb d_M_reads_145 (by decide) (fun c_225 => ?_) (fun c_225 => ?_)
                        · subst hg_rd1
                          dsimp only at hE
                          rw [if_neg (by decide)] at hE
                          rw [if_neg (by decide)] at hE
                          rw [if_pos rfl] at hE
                          refine lv_aload_n hx hb d_M_reads_152 rfl (lv_at hl 3 rfl) ?_
                          refine lv_aload_n hx hb d_M_reads_153 rfl (lv_at hl 3 rfl) ?_
                          refine va_get (D := (dC, dI)) (ci := 5) (v := .int a) (C := "LoanRulesModel") (T := Fz_M) (N := 22) hx hb hts it_M hown hK hP 0 rfl rfl 3 (by decide) (hts _ tw_604) (fun _ h9 => h9) rfl d_M_reads_154 ?_
                          have hPc := hP.sub (ws' := [(a_m, .inr (5, [.int v_th, .ref a_sa, .int v_sz, .int a, .int wr, .ref a_ru, .ref a_me, .ref a_le, .int v_n, .ref a_cl, .ref a_te, .ref a_ki, .ref a_ty, .ref a_bl, .ref a_ex, .ref a_lo, .int v_nl, .ref a_ho, .ref a_fi, .int v_nf, .ref a_cz, .int v_nc]))]) [0] rfl
                          have hKc := hK.sub (tys' := []) [] rfl
                          have hDc := hD.sub (ws' := [(a_m, .inr (5, [.int v_th, .ref a_sa, .int v_sz, .int a, .int wr, .ref a_ru, .ref a_me, .ref a_le, .int v_n, .ref a_cl, .ref a_te, .ref a_ki, .ref a_ty, .ref a_bl, .ref a_ex, .ref a_lo, .int v_nl, .ref a_ho, .ref a_fi, .int v_nf, .ref a_cz, .int v_nc]))]) [0] (by decide) rfl
                          have hFc := va_free (wc := [(a_m, .inr (5, [.int v_th, .ref a_sa, .int v_sz, .int a, .int wr, .ref a_ru, .ref a_me, .ref a_le, .int v_n, .ref a_cl, .ref a_te, .ref a_ki, .ref a_ty, .ref a_bl, .ref a_ex, .ref a_lo, .int v_nl, .ref a_ho, .ref a_fi, .int v_nf, .ref a_cz, .int v_nc]))]) hD hS hA [0] rfl
                          refine va_calli (va_runV (As := [.int a]) (rest := []) ⟨hx, hb, hml, hown, hts⟩ (c_Mg_bad l dC dI adK adV (a_m := a_m) (p0 := a) (v_th := v_th) (a_sa := a_sa) (v_sz := v_sz) (v_at := a) (v_wr := wr) (a_ru := a_ru) (a_me := a_me) (a_le := a_le) (v_n := v_n) (a_cl := a_cl) (a_te := a_te) (a_ki := a_ki) (a_ty := a_ty) (a_bl := a_bl) (a_ex := a_ex) (a_lo := a_lo) (v_nl := v_nl) (a_ho := a_ho) (a_fi := a_fi) (v_nf := v_nf) (a_cz := a_cz) (v_nc := v_nc) (sz := H.size)) (cwV 1 hts (gV tw_688 tw_690 tw_28 tw_46 tw_691) rfl rfl rfl (by decide +kernel) ⟨(Nat.le_of_ble_eq_true rfl), (Nat.le_of_ble_eq_true rfl)⟩) ⟨fun a U g mk q => by obtain ⟨q0, q1, qZ, qP, qK, qD⟩ := q; exact ⟨q0, q1, zz_call qZ, qP, va_K.moved (u := U) (U := U.calling g mk a) (Vm.Alike.refl U.vm) qK, qD⟩, va_recv hKc hPc (ci := 5) (q0 := 0) rfl rfl, fun U hU hW => ⟨rfl, by rw [hU], zz_rw hS hFc hU hW hZ, by rw [hU]; exact hPc, va_K.moved hW.alike hKc, hDc.weaken (fun _ _ _ _ => trivial)⟩⟩ rfl rfl hl.1 rfl (lv_room (Nat.le_of_ble_eq_true rfl)) d_M_reads_157 ⟨(Nat.le_of_ble_eq_true rfl), (Nat.le_of_ble_eq_true rfl)⟩) hS (fun q _ h => hFc q h) hFc (fun r_226 u t H1 locs ht hvm hw_227 hB hz1 hk1 hS => ?_)
                          obtain ⟨hP1, hK1, hD1⟩ := hB
                          rw [ht] at hP1
                          have hK1 := va_K.moved hvm.symm hK1
                          obtain rfl : r_226 = 0 := hw_227
                          obtain ⟨hP, hD⟩ := va_join (wr := [(a_sa, .inl (k_sa, 120, .inl f_sa)), (a_ru, .inl (k_ru, 410, .inl R))]) (w1 := [(a_m, .inr (5, [.int v_th, .ref a_sa, .int v_sz, .int a, .int a, .ref a_ru, .ref a_me, .ref a_le, .int v_n, .ref a_cl, .ref a_te, .ref a_ki, .ref a_ty, .ref a_bl, .ref a_ex, .ref a_lo, .int v_nl, .ref a_ho, .ref a_fi, .int v_nf, .ref a_cz, .int v_nc]))]) hP hD [0] [1, 2] rfl rfl (by decide) (by decide) hk1 hFc hP1 hD1
                          replace hK := (hK.sub (tys' := [(k_sa, .byte), (k_ru, .int)]) [0, 1] rfl).app hK1
                          generalize H1 = H at hP hS ⊢
                          replace hP := hP.sub (ws' := [(a_m, .inr (5, [.int v_th, .ref a_sa, .int v_sz, .int a, .int a, .ref a_ru, .ref a_me, .ref a_le, .int v_n, .ref a_cl, .ref a_te, .ref a_ki, .ref a_ty, .ref a_bl, .ref a_ex, .ref a_lo, .int v_nl, .ref a_ho, .ref a_fi, .int v_nf, .ref a_cz, .int v_nc])), (a_sa, .inl (k_sa, 120, .inl f_sa)), (a_ru, .inl (k_ru, 410, .inl R))]) [2, 0, 1] rfl
                          replace hD := hD.sub (ws' := [(a_m, .inr (5, [.int v_th, .ref a_sa, .int v_sz, .int a, .int a, .ref a_ru, .ref a_me, .ref a_le, .int v_n, .ref a_cl, .ref a_te, .ref a_ki, .ref a_ty, .ref a_bl, .ref a_ex, .ref a_lo, .int v_nl, .ref a_ho, .ref a_fi, .int v_nf, .ref a_cz, .int v_nc])), (a_sa, .inl (k_sa, 120, .inl f_sa)), (a_ru, .inl (k_ru, 410, .inl R))]) [2, 0, 1] (by decide) rfl
                          replace hK := hK.sub (tys' := [(k_sa, .byte), (k_ru, .int)]) [0, 1] rfl
                          have hP9 := hP.sub (ws' := [(a_m, .inr (5, [.int v_th, .ref a_sa, .int v_sz, .int a, .int a, .ref a_ru, .ref a_me, .ref a_le, .int v_n, .ref a_cl, .ref a_te, .ref a_ki, .ref a_ty, .ref a_bl, .ref a_ex, .ref a_lo, .int v_nl, .ref a_ho, .ref a_fi, .int v_nf, .ref a_cz, .int v_nc])), (a_sa, .inl (k_sa, 120, .inl f_sa)), (a_ru, .inl (k_ru, 410, .inl R))]) [0, 1, 2] rfl
                          have hD9 := hD.sub (ws' := [(a_m, .inr (5, [.int v_th, .ref a_sa, .int v_sz, .int a, .int a, .ref a_ru, .ref a_me, .ref a_le, .int v_n, .ref a_cl, .ref a_te, .ref a_ki, .ref a_ty, .ref a_bl, .ref a_ex, .ref a_lo, .int v_nl, .ref a_ho, .ref a_fi, .int v_nf, .ref a_cz, .int v_nc])), (a_sa, .inl (k_sa, 120, .inl f_sa)), (a_ru, .inl (k_ru, 410, .inl R))]) [0, 1, 2] (by decide) rfl
                          have hK9 := hK.sub (tys' := [(k_sa, .byte), (k_ru, .int)]) [0, 1] rfl
                          exact W.zret (v := 0) hx hb hr rfl (fun t ht hW => ⟨⟨0, (), rfl, by rw [← hz, hE], by rw [ht, ← hz, hE]; exact hP9, va_K.moved hW.alike hK9, by rw [← hz, hE]; exact hD9⟩, hS.F ht⟩) hS.2.2 d_M_reads_160
                        · refine lv_iload_n hx hb d_M_reads_148 rfl (lv_at hl 0 rfl) ?_
                          refine lv_if_ne (tgt := 161) hx hb d_M_reads_149 (by decide) (fun c_228 => ?_) (fun c_228 => ?_)
                          · exact absurd (by decide) c_228
                          · subst hg_rd1
                            dsimp only at hE
                            rw [if_neg (by decide)] at hE
                            rw [if_neg (by decide)] at hE
                            rw [if_pos rfl] at hE
                            refine lv_aload_n hx hb d_M_reads_152 rfl (lv_at hl 3 rfl) ?_
                            refine lv_aload_n hx hb d_M_reads_153 rfl (lv_at hl 3 rfl) ?_
                            refine va_get (D := (dC, dI)) (ci := 5) (v := .int a) (C := "LoanRulesModel") (T := Fz_M) (N := 22) hx hb hts it_M hown hK hP 0 rfl rfl 3 (by decide) (hts _ tw_604) (fun _ h9 => h9) rfl d_M_reads_154 ?_
                            have hPc := hP.sub (ws' := [(a_m, .inr (5, [.int v_th, .ref a_sa, .int v_sz, .int a, .int wr, .ref a_ru, .ref a_me, .ref a_le, .int v_n, .ref a_cl, .ref a_te, .ref a_ki, .ref a_ty, .ref a_bl, .ref a_ex, .ref a_lo, .int v_nl, .ref a_ho, .ref a_fi, .int v_nf, .ref a_cz, .int v_nc]))]) [0] rfl
                            have hKc := hK.sub (tys' := []) [] rfl
                            have hDc := hD.sub (ws' := [(a_m, .inr (5, [.int v_th, .ref a_sa, .int v_sz, .int a, .int wr, .ref a_ru, .ref a_me, .ref a_le, .int v_n, .ref a_cl, .ref a_te, .ref a_ki, .ref a_ty, .ref a_bl, .ref a_ex, .ref a_lo, .int v_nl, .ref a_ho, .ref a_fi, .int v_nf, .ref a_cz, .int v_nc]))]) [0] (by decide) rfl
                            have hFc := va_free (wc := [(a_m, .inr (5, [.int v_th, .ref a_sa, .int v_sz, .int a, .int wr, .ref a_ru, .ref a_me, .ref a_le, .int v_n, .ref a_cl, .ref a_te, .ref a_ki, .ref a_ty, .ref a_bl, .ref a_ex, .ref a_lo, .int v_nl, .ref a_ho, .ref a_fi, .int v_nf, .ref a_cz, .int v_nc]))]) hD hS hA [0] rfl
                            refine va_calli (va_runV (As := [.int a]) (rest := []) ⟨hx, hb, hml, hown, hts⟩ (c_Mg_bad l dC dI adK adV (a_m := a_m) (p0 := a) (v_th := v_th) (a_sa := a_sa) (v_sz := v_sz) (v_at := a) (v_wr := wr) (a_ru := a_ru) (a_me := a_me) (a_le := a_le) (v_n := v_n) (a_cl := a_cl) (a_te := a_te) (a_ki := a_ki) (a_ty := a_ty) (a_bl := a_bl) (a_ex := a_ex) (a_lo := a_lo) (v_nl := v_nl) (a_ho := a_ho) (a_fi := a_fi) (v_nf := v_nf) (a_cz := a_cz) (v_nc := v_nc) (sz := H.size)) (cwV 1 hts (gV tw_688 tw_690 tw_28 tw_46 tw_691) rfl rfl rfl (by decide +kernel) ⟨(Nat.le_of_ble_eq_true rfl), (Nat.le_of_ble_eq_true rfl)⟩) ⟨fun a U g mk q => by obtain ⟨q0, q1, qZ, qP, qK, qD⟩ := q; exact ⟨q0, q1, zz_call qZ, qP, va_K.moved (u := U) (U := U.calling g mk a) (Vm.Alike.refl U.vm) qK, qD⟩, va_recv hKc hPc (ci := 5) (q0 := 0) rfl rfl, fun U hU hW => ⟨rfl, by rw [hU], zz_rw hS hFc hU hW hZ, by rw [hU]; exact hPc, va_K.moved hW.alike hKc, hDc.weaken (fun _ _ _ _ => trivial)⟩⟩ rfl rfl hl.1 rfl (lv_room (Nat.le_of_ble_eq_true rfl)) d_M_reads_157 ⟨(Nat.le_of_ble_eq_true rfl), (Nat.le_of_ble_eq_true rfl)⟩) hS (fun q _ h => hFc q h) hFc (fun r_229 u t H1 locs ht hvm hw_230 hB hz1 hk1 hS => ?_)
                            obtain ⟨hP1, hK1, hD1⟩ := hB
                            rw [ht] at hP1
                            have hK1 := va_K.moved hvm.symm hK1
                            obtain rfl : r_229 = 0 := hw_230
                            obtain ⟨hP, hD⟩ := va_join (wr := [(a_sa, .inl (k_sa, 120, .inl f_sa)), (a_ru, .inl (k_ru, 410, .inl R))]) (w1 := [(a_m, .inr (5, [.int v_th, .ref a_sa, .int v_sz, .int a, .int a, .ref a_ru, .ref a_me, .ref a_le, .int v_n, .ref a_cl, .ref a_te, .ref a_ki, .ref a_ty, .ref a_bl, .ref a_ex, .ref a_lo, .int v_nl, .ref a_ho, .ref a_fi, .int v_nf, .ref a_cz, .int v_nc]))]) hP hD [0] [1, 2] rfl rfl (by decide) (by decide) hk1 hFc hP1 hD1
                            replace hK := (hK.sub (tys' := [(k_sa, .byte), (k_ru, .int)]) [0, 1] rfl).app hK1
                            generalize H1 = H at hP hS ⊢
                            replace hP := hP.sub (ws' := [(a_m, .inr (5, [.int v_th, .ref a_sa, .int v_sz, .int a, .int a, .ref a_ru, .ref a_me, .ref a_le, .int v_n, .ref a_cl, .ref a_te, .ref a_ki, .ref a_ty, .ref a_bl, .ref a_ex, .ref a_lo, .int v_nl, .ref a_ho, .ref a_fi, .int v_nf, .ref a_cz, .int v_nc])), (a_sa, .inl (k_sa, 120, .inl f_sa)), (a_ru, .inl (k_ru, 410, .inl R))]) [2, 0, 1] rfl
                            replace hD := hD.sub (ws' := [(a_m, .inr (5, [.int v_th, .ref a_sa, .int v_sz, .int a, .int a, .ref a_ru, .ref a_me, .ref a_le, .int v_n, .ref a_cl, .ref a_te, .ref a_ki, .ref a_ty, .ref a_bl, .ref a_ex, .ref a_lo, .int v_nl, .ref a_ho, .ref a_fi, .int v_nf, .ref a_cz, .int v_nc])), (a_sa, .inl (k_sa, 120, .inl f_sa)), (a_ru, .inl (k_ru, 410, .inl R))]) [2, 0, 1] (by decide) rfl
                            replace hK := hK.sub (tys' := [(k_sa, .byte), (k_ru, .int)]) [0, 1] rfl
                            have hP9 := hP.sub (ws' := [(a_m, .inr (5, [.int v_th, .ref a_sa, .int v_sz, .int a, .int a, .ref a_ru, .ref a_me, .ref a_le, .int v_n, .ref a_cl, .ref a_te, .ref a_ki, .ref a_ty, .ref a_bl, .ref a_ex, .ref a_lo, .int v_nl, .ref a_ho, .ref a_fi, .int v_nf, .ref a_cz, .int v_nc])), (a_sa, .inl (k_sa, 120, .inl f_sa)), (a_ru, .inl (k_ru, 410, .inl R))]) [0, 1, 2] rfl
                            have hD9 := hD.sub (ws' := [(a_m, .inr (5, [.int v_th, .ref a_sa, .int v_sz, .int a, .int a, .ref a_ru, .ref a_me, .ref a_le, .int v_n, .ref a_cl, .ref a_te, .ref a_ki, .ref a_ty, .ref a_bl, .ref a_ex, .ref a_lo, .int v_nl, .ref a_ho, .ref a_fi, .int v_nf, .ref a_cz, .int v_nc])), (a_sa, .inl (k_sa, 120, .inl f_sa)), (a_ru, .inl (k_ru, 410, .inl R))]) [0, 1, 2] (by decide) rfl
                            have hK9 := hK.sub (tys' := [(k_sa, .byte), (k_ru, .int)]) [0, 1] rfl
                            exact W.zret (v := 0) hx hb hr rfl (fun t ht hW => ⟨⟨0, (), rfl, by rw [← hz, hE], by rw [ht, ← hz, hE]; exact hP9, va_K.moved hW.alike hK9, by rw [← hz, hE]; exact hD9⟩, hS.F ht⟩) hS.2.2 d_M_reads_160
                      · rw [if_pos c_224] at hg_rd1
                        refine lv_goto (tgt := 138) hx hb d_M_reads_129 (by decide) ?_
                        refine lv_iconst (v := 1) hx hb d_M_reads_138 (by decide) ?_
                        refine lv_goto (tgt := 143) hx hb d_M_reads_139 (by decide) ?_
                        refine lv_istore_n (lv' := [(3, .int 1), (2, .int (g_Mg_step (g_Mg_word v_sz a f_sa))), (1, .int la), (0, .ref a_m)]) hx hb d_M_reads_143 rfl hl (by decide) rfl (fun ls hl => ?_)
                        refine lv_iload_n hx hb d_M_reads_144 rfl (lv_at hl 1 rfl) ?_
                        refine lv_if_eq (tgt := 152) hx hb d_M_reads_145 (by decide) (fun c_231 => ?_) (fun c_231 => ?_)
                        · rw [if_pos c_231] at hg_rd1
                          subst hg_rd1
                          dsimp only at hE
                          rw [if_neg (by decide)] at hE
                          rw [if_neg (by decide)] at hE
                          rw [if_pos rfl] at hE
                          refine lv_aload_n hx hb d_M_reads_152 rfl (lv_at hl 3 rfl) ?_
                          refine lv_aload_n hx hb d_M_reads_153 rfl (lv_at hl 3 rfl) ?_
                          refine va_get (D := (dC, dI)) (ci := 5) (v := .int a) (C := "LoanRulesModel") (T := Fz_M) (N := 22) hx hb hts it_M hown hK hP 0 rfl rfl 3 (by decide) (hts _ tw_604) (fun _ h9 => h9) rfl d_M_reads_154 ?_
                          have hPc := hP.sub (ws' := [(a_m, .inr (5, [.int v_th, .ref a_sa, .int v_sz, .int a, .int wr, .ref a_ru, .ref a_me, .ref a_le, .int v_n, .ref a_cl, .ref a_te, .ref a_ki, .ref a_ty, .ref a_bl, .ref a_ex, .ref a_lo, .int v_nl, .ref a_ho, .ref a_fi, .int v_nf, .ref a_cz, .int v_nc]))]) [0] rfl
                          have hKc := hK.sub (tys' := []) [] rfl
                          have hDc := hD.sub (ws' := [(a_m, .inr (5, [.int v_th, .ref a_sa, .int v_sz, .int a, .int wr, .ref a_ru, .ref a_me, .ref a_le, .int v_n, .ref a_cl, .ref a_te, .ref a_ki, .ref a_ty, .ref a_bl, .ref a_ex, .ref a_lo, .int v_nl, .ref a_ho, .ref a_fi, .int v_nf, .ref a_cz, .int v_nc]))]) [0] (by decide) rfl
                          have hFc := va_free (wc := [(a_m, .inr (5, [.int v_th, .ref a_sa, .int v_sz, .int a, .int wr, .ref a_ru, .ref a_me, .ref a_le, .int v_n, .ref a_cl, .ref a_te, .ref a_ki, .ref a_ty, .ref a_bl, .ref a_ex, .ref a_lo, .int v_nl, .ref a_ho, .ref a_fi, .int v_nf, .ref a_cz, .int v_nc]))]) hD hS hA [0] rfl
                          refine va_calli (va_runV (As := [.int a]) (rest := []) ⟨hx, hb, hml, hown, hts⟩ (c_Mg_bad l dC dI adK adV (a_m := a_m) (p0 := a) (v_th := v_th) (a_sa := a_sa) (v_sz := v_sz) (v_at := a) (v_wr := wr) (a_ru := a_ru) (a_me := a_me) (a_le := a_le) (v_n := v_n) (a_cl := a_cl) (a_te := a_te) (a_ki := a_ki) (a_ty := a_ty) (a_bl := a_bl) (a_ex := a_ex) (a_lo := a_lo) (v_nl := v_nl) (a_ho := a_ho) (a_fi := a_fi) (v_nf := v_nf) (a_cz := a_cz) (v_nc := v_nc) (sz := H.size)) (cwV 1 hts (gV tw_688 tw_690 tw_28 tw_46 tw_691) rfl rfl rfl (by decide +kernel) ⟨(Nat.le_of_ble_eq_true rfl), (Nat.le_of_ble_eq_true rfl)⟩) ⟨fun a U g mk q => by obtain ⟨q0, q1, qZ, qP, qK, qD⟩ := q; exact ⟨q0, q1, zz_call qZ, qP, va_K.moved (u := U) (U := U.calling g mk a) (Vm.Alike.refl U.vm) qK, qD⟩, va_recv hKc hPc (ci := 5) (q0 := 0) rfl rfl, fun U hU hW => ⟨rfl, by rw [hU], zz_rw hS hFc hU hW hZ, by rw [hU]; exact hPc, va_K.moved hW.alike hKc, hDc.weaken (fun _ _ _ _ => trivial)⟩⟩ rfl rfl hl.1 rfl (lv_room (Nat.le_of_ble_eq_true rfl)) d_M_reads_157 ⟨(Nat.le_of_ble_eq_true rfl), (Nat.le_of_ble_eq_true rfl)⟩) hS (fun q _ h => hFc q h) hFc (fun r_232 u t H1 locs ht hvm hw_233 hB hz1 hk1 hS => ?_)
                          obtain ⟨hP1, hK1, hD1⟩ := hB
                          rw [ht] at hP1
                          have hK1 := va_K.moved hvm.symm hK1
                          obtain rfl : r_232 = 0 := hw_233
                          obtain ⟨hP, hD⟩ := va_join (wr := [(a_sa, .inl (k_sa, 120, .inl f_sa)), (a_ru, .inl (k_ru, 410, .inl R))]) (w1 := [(a_m, .inr (5, [.int v_th, .ref a_sa, .int v_sz, .int a, .int a, .ref a_ru, .ref a_me, .ref a_le, .int v_n, .ref a_cl, .ref a_te, .ref a_ki, .ref a_ty, .ref a_bl, .ref a_ex, .ref a_lo, .int v_nl, .ref a_ho, .ref a_fi, .int v_nf, .ref a_cz, .int v_nc]))]) hP hD [0] [1, 2] rfl rfl (by decide) (by decide) hk1 hFc hP1 hD1
                          replace hK := (hK.sub (tys' := [(k_sa, .byte), (k_ru, .int)]) [0, 1] rfl).app hK1
                          generalize H1 = H at hP hS ⊢
                          replace hP := hP.sub (ws' := [(a_m, .inr (5, [.int v_th, .ref a_sa, .int v_sz, .int a, .int a, .ref a_ru, .ref a_me, .ref a_le, .int v_n, .ref a_cl, .ref a_te, .ref a_ki, .ref a_ty, .ref a_bl, .ref a_ex, .ref a_lo, .int v_nl, .ref a_ho, .ref a_fi, .int v_nf, .ref a_cz, .int v_nc])), (a_sa, .inl (k_sa, 120, .inl f_sa)), (a_ru, .inl (k_ru, 410, .inl R))]) [2, 0, 1] rfl
                          replace hD := hD.sub (ws' := [(a_m, .inr (5, [.int v_th, .ref a_sa, .int v_sz, .int a, .int a, .ref a_ru, .ref a_me, .ref a_le, .int v_n, .ref a_cl, .ref a_te, .ref a_ki, .ref a_ty, .ref a_bl, .ref a_ex, .ref a_lo, .int v_nl, .ref a_ho, .ref a_fi, .int v_nf, .ref a_cz, .int v_nc])), (a_sa, .inl (k_sa, 120, .inl f_sa)), (a_ru, .inl (k_ru, 410, .inl R))]) [2, 0, 1] (by decide) rfl
                          replace hK := hK.sub (tys' := [(k_sa, .byte), (k_ru, .int)]) [0, 1] rfl
                          have hP9 := hP.sub (ws' := [(a_m, .inr (5, [.int v_th, .ref a_sa, .int v_sz, .int a, .int a, .ref a_ru, .ref a_me, .ref a_le, .int v_n, .ref a_cl, .ref a_te, .ref a_ki, .ref a_ty, .ref a_bl, .ref a_ex, .ref a_lo, .int v_nl, .ref a_ho, .ref a_fi, .int v_nf, .ref a_cz, .int v_nc])), (a_sa, .inl (k_sa, 120, .inl f_sa)), (a_ru, .inl (k_ru, 410, .inl R))]) [0, 1, 2] rfl
                          have hD9 := hD.sub (ws' := [(a_m, .inr (5, [.int v_th, .ref a_sa, .int v_sz, .int a, .int a, .ref a_ru, .ref a_me, .ref a_le, .int v_n, .ref a_cl, .ref a_te, .ref a_ki, .ref a_ty, .ref a_bl, .ref a_ex, .ref a_lo, .int v_nl, .ref a_ho, .ref a_fi, .int v_nf, .ref a_cz, .int v_nc])), (a_sa, .inl (k_sa, 120, .inl f_sa)), (a_ru, .inl (k_ru, 410, .inl R))]) [0, 1, 2] (by decide) rfl
                          have hK9 := hK.sub (tys' := [(k_sa, .byte), (k_ru, .int)]) [0, 1] rfl
                          exact W.zret (v := 0) hx hb hr rfl (fun t ht hW => ⟨⟨0, (), rfl, by rw [← hz, hE], by rw [ht, ← hz, hE]; exact hP9, va_K.moved hW.alike hK9, by rw [← hz, hE]; exact hD9⟩, hS.F ht⟩) hS.2.2 d_M_reads_160
                        · rw [if_neg c_231] at hg_rd1
                          refine lv_iload_n hx hb d_M_reads_148 rfl (lv_at hl 0 rfl) ?_
                          refine lv_if_ne (tgt := 161) hx hb d_M_reads_149 (by decide) (fun c_234 => ?_) (fun c_234 => ?_)
                          · refine lv_aload_n hx hb d_M_reads_161 rfl (lv_at hl 3 rfl) ?_
                            have hPc := hP.sub (ws' := [(a_m, .inr (5, [.int v_th, .ref a_sa, .int v_sz, .int a, .int wr, .ref a_ru, .ref a_me, .ref a_le, .int v_n, .ref a_cl, .ref a_te, .ref a_ki, .ref a_ty, .ref a_bl, .ref a_ex, .ref a_lo, .int v_nl, .ref a_ho, .ref a_fi, .int v_nf, .ref a_cz, .int v_nc])), (a_sa, .inl (k_sa, 120, .inl f_sa))]) [0, 1] rfl
                            have hKc := hK.sub (tys' := [(k_sa, .byte)]) [0] rfl
                            have hDc := hD.sub (ws' := [(a_m, .inr (5, [.int v_th, .ref a_sa, .int v_sz, .int a, .int wr, .ref a_ru, .ref a_me, .ref a_le, .int v_n, .ref a_cl, .ref a_te, .ref a_ki, .ref a_ty, .ref a_bl, .ref a_ex, .ref a_lo, .int v_nl, .ref a_ho, .ref a_fi, .int v_nf, .ref a_cz, .int v_nc])), (a_sa, .inl (k_sa, 120, .inl f_sa))]) [0, 1] (by decide) rfl
                            have hFc := va_free (wc := [(a_m, .inr (5, [.int v_th, .ref a_sa, .int v_sz, .int a, .int wr, .ref a_ru, .ref a_me, .ref a_le, .int v_n, .ref a_cl, .ref a_te, .ref a_ki, .ref a_ty, .ref a_bl, .ref a_ex, .ref a_lo, .int v_nl, .ref a_ho, .ref a_fi, .int v_nf, .ref a_cz, .int v_nc])), (a_sa, .inl (k_sa, 120, .inl f_sa))]) hD hS hA [0, 1] rfl
                            refine va_callv (va_runV (As := []) (rest := []) ⟨hx, hb, hml, hown, hts⟩ (c_Mg_pass l dC dI adK adV (a_m := a_m) (v_th := v_th) (a_sa := a_sa) (v_sz := v_sz) (v_at := a) (v_wr := wr) (a_ru := a_ru) (a_me := a_me) (a_le := a_le) (v_n := v_n) (a_cl := a_cl) (a_te := a_te) (a_ki := a_ki) (a_ty := a_ty) (a_bl := a_bl) (a_ex := a_ex) (a_lo := a_lo) (v_nl := v_nl) (a_ho := a_ho) (a_fi := a_fi) (v_nf := v_nf) (a_cz := a_cz) (v_nc := v_nc) (k_sa := k_sa) (f_sa := f_sa) (sz := H.size) hsz ha) (cwV 0 hts (gV tw_712 tw_714 tw_30 tw_46 tw_715) rfl rfl rfl (by decide +kernel) ⟨(Nat.le_of_ble_eq_true rfl), (Nat.le_of_ble_eq_true rfl)⟩) ⟨fun a U g mk q => by obtain ⟨q0, q1, qZ, qP, qK, qD⟩ := q; exact ⟨q0, q1, zz_call qZ, qP, va_K.moved (u := U) (U := U.calling g mk a) (Vm.Alike.refl U.vm) qK, qD⟩, va_recv hKc hPc (ci := 5) (q0 := 0) rfl rfl, fun U hU hW => ⟨rfl, by rw [hU], zz_rw hS hFc hU hW hZ, by rw [hU]; exact hPc, va_K.moved hW.alike hKc, hDc.weaken (fun _ _ _ _ => trivial)⟩⟩ rfl rfl hl.1 rfl (lv_room (Nat.le_of_ble_eq_true rfl)) d_M_reads_162 ⟨(Nat.le_of_ble_eq_true rfl), (Nat.le_of_ble_eq_true rfl)⟩) hS (fun q _ h => hFc q h) hFc (fun u t H1 locs ht hvm hw_235 hB hz1 hk1 hS => ?_)
                            generalize hg_x_236 : g_Mg_pass v_sz a f_sa = x_236 at hw_235 hB hg_rd1
                            rw [bv_eq] at hg_rd1
                            obtain ⟨hP1, hK1, hD1⟩ := hB
                            rw [ht] at hP1
                            have hK1 := va_K.moved hvm.symm hK1
                            obtain ⟨hP, hD⟩ := va_join (wr := [(a_ru, .inl (k_ru, 410, .inl R))]) (w1 := [(a_m, .inr (5, [.int v_th, .ref a_sa, .int v_sz, .int x_236, .int wr, .ref a_ru, .ref a_me, .ref a_le, .int v_n, .ref a_cl, .ref a_te, .ref a_ki, .ref a_ty, .ref a_bl, .ref a_ex, .ref a_lo, .int v_nl, .ref a_ho, .ref a_fi, .int v_nf, .ref a_cz, .int v_nc])), (a_sa, .inl (k_sa, 120, .inl f_sa))]) hP hD [0, 1] [2] rfl rfl (by decide) (by decide) hk1 hFc hP1 hD1
                            replace hK := (hK.sub (tys' := [(k_ru, .int)]) [1] rfl).app hK1
                            generalize H1 = H at hP hS ⊢
                            replace hP := hP.sub (ws' := [(a_m, .inr (5, [.int v_th, .ref a_sa, .int v_sz, .int x_236, .int wr, .ref a_ru, .ref a_me, .ref a_le, .int v_n, .ref a_cl, .ref a_te, .ref a_ki, .ref a_ty, .ref a_bl, .ref a_ex, .ref a_lo, .int v_nl, .ref a_ho, .ref a_fi, .int v_nf, .ref a_cz, .int v_nc])), (a_sa, .inl (k_sa, 120, .inl f_sa)), (a_ru, .inl (k_ru, 410, .inl R))]) [1, 2, 0] rfl
                            replace hD := hD.sub (ws' := [(a_m, .inr (5, [.int v_th, .ref a_sa, .int v_sz, .int x_236, .int wr, .ref a_ru, .ref a_me, .ref a_le, .int v_n, .ref a_cl, .ref a_te, .ref a_ki, .ref a_ty, .ref a_bl, .ref a_ex, .ref a_lo, .int v_nl, .ref a_ho, .ref a_fi, .int v_nf, .ref a_cz, .int v_nc])), (a_sa, .inl (k_sa, 120, .inl f_sa)), (a_ru, .inl (k_ru, 410, .inl R))]) [1, 2, 0] (by decide) rfl
                            replace hK := hK.sub (tys' := [(k_sa, .byte), (k_ru, .int)]) [1, 0] rfl
                            refine lv_aload_n hx hb d_M_reads_165 rfl (lv_at hl 3 rfl) ?_
                            refine lv_iload_n hx hb d_M_reads_166 rfl (lv_at hl 1 rfl) ?_
                            have hPc := hP.sub (ws' := [(a_m, .inr (5, [.int v_th, .ref a_sa, .int v_sz, .int x_236, .int wr, .ref a_ru, .ref a_me, .ref a_le, .int v_n, .ref a_cl, .ref a_te, .ref a_ki, .ref a_ty, .ref a_bl, .ref a_ex, .ref a_lo, .int v_nl, .ref a_ho, .ref a_fi, .int v_nf, .ref a_cz, .int v_nc])), (a_sa, .inl (k_sa, 120, .inl f_sa)), (a_ru, .inl (k_ru, 410, .inl R))]) [0, 1, 2] rfl
                            have hKc := hK.sub (tys' := [(k_sa, .byte), (k_ru, .int)]) [0, 1] rfl
                            have hDc := hD.sub (ws' := [(a_m, .inr (5, [.int v_th, .ref a_sa, .int v_sz, .int x_236, .int wr, .ref a_ru, .ref a_me, .ref a_le, .int v_n, .ref a_cl, .ref a_te, .ref a_ki, .ref a_ty, .ref a_bl, .ref a_ex, .ref a_lo, .int v_nl, .ref a_ho, .ref a_fi, .int v_nf, .ref a_cz, .int v_nc])), (a_sa, .inl (k_sa, 120, .inl f_sa)), (a_ru, .inl (k_ru, 410, .inl R))]) [0, 1, 2] (by decide) rfl
                            have hFc := va_free (wc := [(a_m, .inr (5, [.int v_th, .ref a_sa, .int v_sz, .int x_236, .int wr, .ref a_ru, .ref a_me, .ref a_le, .int v_n, .ref a_cl, .ref a_te, .ref a_ki, .ref a_ty, .ref a_bl, .ref a_ex, .ref a_lo, .int v_nl, .ref a_ho, .ref a_fi, .int v_nf, .ref a_cz, .int v_nc])), (a_sa, .inl (k_sa, 120, .inl f_sa)), (a_ru, .inl (k_ru, 410, .inl R))]) hD hS hA [0, 1, 2] rfl
                            refine va_calli (va_runV (As := [.int (g_Mg_step (g_Mg_word v_sz a f_sa))]) (rest := []) ⟨hx, hb, hml, hown, hts⟩ (c_Mg_one l dC dI adK adV (a_m := a_m) (p0 := g_Mg_step (g_Mg_word v_sz a f_sa)) (v_th := v_th) (a_sa := a_sa) (v_sz := v_sz) (v_at := x_236) (v_wr := wr) (a_ru := a_ru) (a_me := a_me) (a_le := a_le) (v_n := v_n) (a_cl := a_cl) (a_te := a_te) (a_ki := a_ki) (a_ty := a_ty) (a_bl := a_bl) (a_ex := a_ex) (a_lo := a_lo) (v_nl := v_nl) (a_ho := a_ho) (a_fi := a_fi) (v_nf := v_nf) (a_cz := a_cz) (v_nc := v_nc) (k_sa := k_sa) (f_sa := f_sa) (k_ru := k_ru) (f_ru := R) (sz := H.size) hsz (hg_x_236 ▸ pass_at hsz ha) hn) (cwV 1 hts (gV tw_716 tw_718 tw_31 tw_46 tw_719) rfl rfl rfl (by decide +kernel) ⟨(Nat.le_of_ble_eq_true rfl), (Nat.le_of_ble_eq_true rfl)⟩) ⟨fun a U g mk q => by obtain ⟨q0, q1, qZ, qP, qK, qD⟩ := q; exact ⟨q0, q1, zz_call qZ, qP, va_K.moved (u := U) (U := U.calling g mk a) (Vm.Alike.refl U.vm) qK, qD⟩, va_recv hKc hPc (ci := 5) (q0 := 0) rfl rfl, fun U hU hW => ⟨rfl, by rw [hU], zz_rw hS hFc hU hW hZ, by rw [hU]; exact hPc, va_K.moved hW.alike hKc, hDc.weaken (fun _ _ _ _ => trivial)⟩⟩ rfl rfl hl.1 rfl (lv_room (Nat.le_of_ble_eq_true rfl)) d_M_reads_167 ⟨(Nat.le_of_ble_eq_true rfl), (Nat.le_of_ble_eq_true rfl)⟩) hS (fun q _ h => hFc q h) hFc (fun r_237 u t H1 locs ht hvm hw_238 hB hz1 hk1 hS => ?_)
                            generalize hg_x_239 : g_Mg_one (g_Mg_step (g_Mg_word v_sz a f_sa)) v_sz x_236 wr v_n f_sa R = x_239 at hw_238 hB hg_rd1
                            rw [bv_eq] at hg_rd1
                            obtain ⟨hP1, hK1, hD1⟩ := hB
                            rw [ht] at hP1
                            have hK1 := va_K.moved hvm.symm hK1
                            obtain rfl : r_237 = x_239.1 := hw_238
                            obtain ⟨hP, hD⟩ := va_join (wr := []) (w1 := [(a_m, .inr (5, [.int v_th, .ref a_sa, .int v_sz, .int x_239.2.1, .int x_239.2.2.1, .ref a_ru, .ref a_me, .ref a_le, .int v_n, .ref a_cl, .ref a_te, .ref a_ki, .ref a_ty, .ref a_bl, .ref a_ex, .ref a_lo, .int v_nl, .ref a_ho, .ref a_fi, .int v_nf, .ref a_cz, .int v_nc])), (a_sa, .inl (k_sa, 120, .inl f_sa)), (a_ru, .inl (k_ru, 410, .inl x_239.2.2.2))]) hP hD [0, 1, 2] [] rfl rfl (by decide) (by decide) hk1 hFc hP1 hD1
                            replace hK := (hK.sub (tys' := []) [] rfl).app hK1
                            generalize H1 = H at hP hS ⊢
                            replace hP := hP.sub (ws' := [(a_m, .inr (5, [.int v_th, .ref a_sa, .int v_sz, .int x_239.2.1, .int x_239.2.2.1, .ref a_ru, .ref a_me, .ref a_le, .int v_n, .ref a_cl, .ref a_te, .ref a_ki, .ref a_ty, .ref a_bl, .ref a_ex, .ref a_lo, .int v_nl, .ref a_ho, .ref a_fi, .int v_nf, .ref a_cz, .int v_nc])), (a_sa, .inl (k_sa, 120, .inl f_sa)), (a_ru, .inl (k_ru, 410, .inl x_239.2.2.2))]) [0, 1, 2] rfl
                            replace hD := hD.sub (ws' := [(a_m, .inr (5, [.int v_th, .ref a_sa, .int v_sz, .int x_239.2.1, .int x_239.2.2.1, .ref a_ru, .ref a_me, .ref a_le, .int v_n, .ref a_cl, .ref a_te, .ref a_ki, .ref a_ty, .ref a_bl, .ref a_ex, .ref a_lo, .int v_nl, .ref a_ho, .ref a_fi, .int v_nf, .ref a_cz, .int v_nc])), (a_sa, .inl (k_sa, 120, .inl f_sa)), (a_ru, .inl (k_ru, 410, .inl x_239.2.2.2))]) [0, 1, 2] (by decide) rfl
                            replace hK := hK.sub (tys' := [(k_sa, .byte), (k_ru, .int)]) [0, 1] rfl
                            refine lv_if_ne (tgt := 175) hx hb d_M_reads_170 (by decide) (fun c_240 => ?_) (fun c_240 => ?_)
                            · rw [if_neg c_240] at hg_rd1
                              refine lv_iload_n hx hb d_M_reads_175 rfl (lv_at hl 1 rfl) ?_
                              refine lv_istore_n (lv' := [(1, .int (g_Mg_step (g_Mg_word v_sz a f_sa))), (3, .int 1), (2, .int (g_Mg_step (g_Mg_word v_sz a f_sa))), (0, .ref a_m)]) hx hb d_M_reads_176 rfl hl (by decide) rfl (fun ls hl => ?_)
                              refine lv_goto (tgt := 56) hx hb d_M_reads_177 (by decide) ?_
                              exact ih_rd1 _ _ _ _ _ _ _ ⟨hP, hD, hS, lv_sub hl [0, 3] rfl, ((hg_x_239 ▸ one_at hsz (hg_x_236 ▸ pass_at hsz ha))), (step_le _), (li_mt hla c_180 (step_le _) hm_rd1), hg_rd1⟩
                            · rw [if_pos c_240] at hg_rd1
                              subst hg_rd1
                              dsimp only at hE
                              rw [if_neg (by decide)] at hE
                              rw [if_neg (by decide)] at hE
                              rw [if_neg (by decide)] at hE
                              refine lv_iconst (v := 0) hx hb d_M_reads_173 (by decide) ?_
                              have hP9 := hP.sub (ws' := [(a_m, .inr (5, [.int v_th, .ref a_sa, .int v_sz, .int x_239.2.1, .int x_239.2.2.1, .ref a_ru, .ref a_me, .ref a_le, .int v_n, .ref a_cl, .ref a_te, .ref a_ki, .ref a_ty, .ref a_bl, .ref a_ex, .ref a_lo, .int v_nl, .ref a_ho, .ref a_fi, .int v_nf, .ref a_cz, .int v_nc])), (a_sa, .inl (k_sa, 120, .inl f_sa)), (a_ru, .inl (k_ru, 410, .inl x_239.2.2.2))]) [0, 1, 2] rfl
                              have hD9 := hD.sub (ws' := [(a_m, .inr (5, [.int v_th, .ref a_sa, .int v_sz, .int x_239.2.1, .int x_239.2.2.1, .ref a_ru, .ref a_me, .ref a_le, .int v_n, .ref a_cl, .ref a_te, .ref a_ki, .ref a_ty, .ref a_bl, .ref a_ex, .ref a_lo, .int v_nl, .ref a_ho, .ref a_fi, .int v_nf, .ref a_cz, .int v_nc])), (a_sa, .inl (k_sa, 120, .inl f_sa)), (a_ru, .inl (k_ru, 410, .inl x_239.2.2.2))]) [0, 1, 2] (by decide) rfl
                              have hK9 := hK.sub (tys' := [(k_sa, .byte), (k_ru, .int)]) [0, 1] rfl
                              exact W.zret (v := 0) hx hb hr rfl (fun t ht hW => ⟨⟨0, (), rfl, by rw [← hz, hE], by rw [ht, ← hz, hE]; exact hP9, va_K.moved hW.alike hK9, by rw [← hz, hE]; exact hD9⟩, hS.F ht⟩) hS.2.2 d_M_reads_174
                          · exact absurd c_234 (by decide)
                · rw [if_neg c_187] at hg_rd1
                  refine lv_iload_n hx hb d_M_reads_103 rfl (lv_at hl 0 rfl) ?_
                  refine lv_bipush (v := 7) hx hb d_M_reads_104 (by decide) ?_
                  refine lv_icmp_ge (tgt := 142) hx hb d_M_reads_106 (by decide) (fun c_241 => ?_) (fun c_241 => ?_)
                  · rw [if_pos c_241] at hg_rd1
                    refine lv_iconst (v := 0) hx hb d_M_reads_142 (by decide) ?_
                    refine lv_istore_n (lv' := [(3, .int 0), (2, .int (g_Mg_step (g_Mg_word v_sz a f_sa))), (1, .int la), (0, .ref a_m)]) hx hb d_M_reads_143 rfl hl (by decide) rfl (fun ls hl => ?_)
                    refine lv_iload_n hx hb d_M_reads_144 rfl (lv_at hl 1 rfl) ?_
                    refine lv_if_eq (tgt := 152) hx hb d_M_reads_145 (by decide) (fun c_242 => ?_) (fun c_242 => ?_)
                    · subst hg_rd1
                      dsimp only at hE
                      rw [if_neg (by decide)] at hE
                      rw [if_neg (by decide)] at hE
                      rw [if_pos rfl] at hE
                      refine lv_aload_n hx hb d_M_reads_152 rfl (lv_at hl 3 rfl) ?_
                      refine lv_aload_n hx hb d_M_reads_153 rfl (lv_at hl 3 rfl) ?_
                      refine va_get (D := (dC, dI)) (ci := 5) (v := .int a) (C := "LoanRulesModel") (T := Fz_M) (N := 22) hx hb hts it_M hown hK hP 0 rfl rfl 3 (by decide) (hts _ tw_604) (fun _ h9 => h9) rfl d_M_reads_154 ?_
                      have hPc := hP.sub (ws' := [(a_m, .inr (5, [.int v_th, .ref a_sa, .int v_sz, .int a, .int wr, .ref a_ru, .ref a_me, .ref a_le, .int v_n, .ref a_cl, .ref a_te, .ref a_ki, .ref a_ty, .ref a_bl, .ref a_ex, .ref a_lo, .int v_nl, .ref a_ho, .ref a_fi, .int v_nf, .ref a_cz, .int v_nc]))]) [0] rfl
                      have hKc := hK.sub (tys' := []) [] rfl
                      have hDc := hD.sub (ws' := [(a_m, .inr (5, [.int v_th, .ref a_sa, .int v_sz, .int a, .int wr, .ref a_ru, .ref a_me, .ref a_le, .int v_n, .ref a_cl, .ref a_te, .ref a_ki, .ref a_ty, .ref a_bl, .ref a_ex, .ref a_lo, .int v_nl, .ref a_ho, .ref a_fi, .int v_nf, .ref a_cz, .int v_nc]))]) [0] (by decide) rfl
                      have hFc := va_free (wc := [(a_m, .inr (5, [.int v_th, .ref a_sa, .int v_sz, .int a, .int wr, .ref a_ru, .ref a_me, .ref a_le, .int v_n, .ref a_cl, .ref a_te, .ref a_ki, .ref a_ty, .ref a_bl, .ref a_ex, .ref a_lo, .int v_nl, .ref a_ho, .ref a_fi, .int v_nf, .ref a_cz, .int v_nc]))]) hD hS hA [0] rfl
                      refine va_calli (va_runV (As := [.int a]) (rest := []) ⟨hx, hb, hml, hown, hts⟩ (c_Mg_bad l dC dI adK adV (a_m := a_m) (p0 := a) (v_th := v_th) (a_sa := a_sa) (v_sz := v_sz) (v_at := a) (v_wr := wr) (a_ru := a_ru) (a_me := a_me) (a_le := a_le) (v_n := v_n) (a_cl := a_cl) (a_te := a_te) (a_ki := a_ki) (a_ty := a_ty) (a_bl := a_bl) (a_ex := a_ex) (a_lo := a_lo) (v_nl := v_nl) (a_ho := a_ho) (a_fi := a_fi) (v_nf := v_nf) (a_cz := a_cz) (v_nc := v_nc) (sz := H.size)) (cwV 1 hts (gV tw_688 tw_690 tw_28 tw_46 tw_691) rfl rfl rfl (by decide +kernel) ⟨(Nat.le_of_ble_eq_true rfl), (Nat.le_of_ble_eq_true rfl)⟩) ⟨fun a U g mk q => by obtain ⟨q0, q1, qZ, qP, qK, qD⟩ := q; exact ⟨q0, q1, zz_call qZ, qP, va_K.moved (u := U) (U := U.calling g mk a) (Vm.Alike.refl U.vm) qK, qD⟩, va_recv hKc hPc (ci := 5) (q0 := 0) rfl rfl, fun U hU hW => ⟨rfl, by rw [hU], zz_rw hS hFc hU hW hZ, by rw [hU]; exact hPc, va_K.moved hW.alike hKc, hDc.weaken (fun _ _ _ _ => trivial)⟩⟩ rfl rfl hl.1 rfl (lv_room (Nat.le_of_ble_eq_true rfl)) d_M_reads_157 ⟨(Nat.le_of_ble_eq_true rfl), (Nat.le_of_ble_eq_true rfl)⟩) hS (fun q _ h => hFc q h) hFc (fun r_243 u t H1 locs ht hvm hw_244 hB hz1 hk1 hS => ?_)
                      obtain ⟨hP1, hK1, hD1⟩ := hB
                      rw [ht] at hP1
                      have hK1 := va_K.moved hvm.symm hK1
                      obtain rfl : r_243 = 0 := hw_244
                      obtain ⟨hP, hD⟩ := va_join (wr := [(a_sa, .inl (k_sa, 120, .inl f_sa)), (a_ru, .inl (k_ru, 410, .inl R))]) (w1 := [(a_m, .inr (5, [.int v_th, .ref a_sa, .int v_sz, .int a, .int a, .ref a_ru, .ref a_me, .ref a_le, .int v_n, .ref a_cl, .ref a_te, .ref a_ki, .ref a_ty, .ref a_bl, .ref a_ex, .ref a_lo, .int v_nl, .ref a_ho, .ref a_fi, .int v_nf, .ref a_cz, .int v_nc]))]) hP hD [0] [1, 2] rfl rfl (by decide) (by decide) hk1 hFc hP1 hD1
                      replace hK := (hK.sub (tys' := [(k_sa, .byte), (k_ru, .int)]) [0, 1] rfl).app hK1
                      generalize H1 = H at hP hS ⊢
                      replace hP := hP.sub (ws' := [(a_m, .inr (5, [.int v_th, .ref a_sa, .int v_sz, .int a, .int a, .ref a_ru, .ref a_me, .ref a_le, .int v_n, .ref a_cl, .ref a_te, .ref a_ki, .ref a_ty, .ref a_bl, .ref a_ex, .ref a_lo, .int v_nl, .ref a_ho, .ref a_fi, .int v_nf, .ref a_cz, .int v_nc])), (a_sa, .inl (k_sa, 120, .inl f_sa)), (a_ru, .inl (k_ru, 410, .inl R))]) [2, 0, 1] rfl
                      replace hD := hD.sub (ws' := [(a_m, .inr (5, [.int v_th, .ref a_sa, .int v_sz, .int a, .int a, .ref a_ru, .ref a_me, .ref a_le, .int v_n, .ref a_cl, .ref a_te, .ref a_ki, .ref a_ty, .ref a_bl, .ref a_ex, .ref a_lo, .int v_nl, .ref a_ho, .ref a_fi, .int v_nf, .ref a_cz, .int v_nc])), (a_sa, .inl (k_sa, 120, .inl f_sa)), (a_ru, .inl (k_ru, 410, .inl R))]) [2, 0, 1] (by decide) rfl
                      replace hK := hK.sub (tys' := [(k_sa, .byte), (k_ru, .int)]) [0, 1] rfl
                      have hP9 := hP.sub (ws' := [(a_m, .inr (5, [.int v_th, .ref a_sa, .int v_sz, .int a, .int a, .ref a_ru, .ref a_me, .ref a_le, .int v_n, .ref a_cl, .ref a_te, .ref a_ki, .ref a_ty, .ref a_bl, .ref a_ex, .ref a_lo, .int v_nl, .ref a_ho, .ref a_fi, .int v_nf, .ref a_cz, .int v_nc])), (a_sa, .inl (k_sa, 120, .inl f_sa)), (a_ru, .inl (k_ru, 410, .inl R))]) [0, 1, 2] rfl
                      have hD9 := hD.sub (ws' := [(a_m, .inr (5, [.int v_th, .ref a_sa, .int v_sz, .int a, .int a, .ref a_ru, .ref a_me, .ref a_le, .int v_n, .ref a_cl, .ref a_te, .ref a_ki, .ref a_ty, .ref a_bl, .ref a_ex, .ref a_lo, .int v_nl, .ref a_ho, .ref a_fi, .int v_nf, .ref a_cz, .int v_nc])), (a_sa, .inl (k_sa, 120, .inl f_sa)), (a_ru, .inl (k_ru, 410, .inl R))]) [0, 1, 2] (by decide) rfl
                      have hK9 := hK.sub (tys' := [(k_sa, .byte), (k_ru, .int)]) [0, 1] rfl
                      exact W.zret (v := 0) hx hb hr rfl (fun t ht hW => ⟨⟨0, (), rfl, by rw [← hz, hE], by rw [ht, ← hz, hE]; exact hP9, va_K.moved hW.alike hK9, by rw [← hz, hE]; exact hD9⟩, hS.F ht⟩) hS.2.2 d_M_reads_160
                    · refine lv_iload_n hx hb d_M_reads_148 rfl (lv_at hl 0 rfl) ?_
                      refine lv_if_ne (tgt := 161) hx hb d_M_reads_149 (by decide) (fun c_245 => ?_) (fun c_245 => ?_)
                      · exact absurd (by decide) c_245
                      · subst hg_rd1
                        dsimp only at hE
                        rw [if_neg (by decide)] at hE
                        rw [if_neg (by decide)] at hE
                        rw [if_pos rfl] at hE
                        refine lv_aload_n hx hb d_M_reads_152 rfl (lv_at hl 3 rfl) ?_
                        refine lv_aload_n hx hb d_M_reads_153 rfl (lv_at hl 3 rfl) ?_
                        refine va_get (D := (dC, dI)) (ci := 5) (v := .int a) (C := "LoanRulesModel") (T := Fz_M) (N := 22) hx hb hts it_M hown hK hP 0 rfl rfl 3 (by decide) (hts _ tw_604) (fun _ h9 => h9) rfl d_M_reads_154 ?_
                        have hPc := hP.sub (ws' := [(a_m, .inr (5, [.int v_th, .ref a_sa, .int v_sz, .int a, .int wr, .ref a_ru, .ref a_me, .ref a_le, .int v_n, .ref a_cl, .ref a_te, .ref a_ki, .ref a_ty, .ref a_bl, .ref a_ex, .ref a_lo, .int v_nl, .ref a_ho, .ref a_fi, .int v_nf, .ref a_cz, .int v_nc]))]) [0] rfl
                        have hKc := hK.sub (tys' := []) [] rfl
                        have hDc := hD.sub (ws' := [(a_m, .inr (5, [.int v_th, .ref a_sa, .int v_sz, .int a, .int wr, .ref a_ru, .ref a_me, .ref a_le, .int v_n, .ref a_cl, .ref a_te, .ref a_ki, .ref a_ty, .ref a_bl, .ref a_ex, .ref a_lo, .int v_nl, .ref a_ho, .ref a_fi, .int v_nf, .ref a_cz, .int v_nc]))]) [0] (by decide) rfl
                        have hFc := va_free (wc := [(a_m, .inr (5, [.int v_th, .ref a_sa, .int v_sz, .int a, .int wr, .ref a_ru, .ref a_me, .ref a_le, .int v_n, .ref a_cl, .ref a_te, .ref a_ki, .ref a_ty, .ref a_bl, .ref a_ex, .ref a_lo, .int v_nl, .ref a_ho, .ref a_fi, .int v_nf, .ref a_cz, .int v_nc]))]) hD hS hA [0] rfl
                        refine va_calli (va_runV (As := [.int a]) (rest := []) ⟨hx, hb, hml, hown, hts⟩ (c_Mg_bad l dC dI adK adV (a_m := a_m) (p0 := a) (v_th := v_th) (a_sa := a_sa) (v_sz := v_sz) (v_at := a) (v_wr := wr) (a_ru := a_ru) (a_me := a_me) (a_le := a_le) (v_n := v_n) (a_cl := a_cl) (a_te := a_te) (a_ki := a_ki) (a_ty := a_ty) (a_bl := a_bl) (a_ex := a_ex) (a_lo := a_lo) (v_nl := v_nl) (a_ho := a_ho) (a_fi := a_fi) (v_nf := v_nf) (a_cz := a_cz) (v_nc := v_nc) (sz := H.size)) (cwV 1 hts (gV tw_688 tw_690 tw_28 tw_46 tw_691) rfl rfl rfl (by decide +kernel) ⟨(Nat.le_of_ble_eq_true rfl), (Nat.le_of_ble_eq_true rfl)⟩) ⟨fun a U g mk q => by obtain ⟨q0, q1, qZ, qP, qK, qD⟩ := q; exact ⟨q0, q1, zz_call qZ, qP, va_K.moved (u := U) (U := U.calling g mk a) (Vm.Alike.refl U.vm) qK, qD⟩, va_recv hKc hPc (ci := 5) (q0 := 0) rfl rfl, fun U hU hW => ⟨rfl, by rw [hU], zz_rw hS hFc hU hW hZ, by rw [hU]; exact hPc, va_K.moved hW.alike hKc, hDc.weaken (fun _ _ _ _ => trivial)⟩⟩ rfl rfl hl.1 rfl (lv_room (Nat.le_of_ble_eq_true rfl)) d_M_reads_157 ⟨(Nat.le_of_ble_eq_true rfl), (Nat.le_of_ble_eq_true rfl)⟩) hS (fun q _ h => hFc q h) hFc (fun r_246 u t H1 locs ht hvm hw_247 hB hz1 hk1 hS => ?_)
                        obtain ⟨hP1, hK1, hD1⟩ := hB
                        rw [ht] at hP1
                        have hK1 := va_K.moved hvm.symm hK1
                        obtain rfl : r_246 = 0 := hw_247
                        obtain ⟨hP, hD⟩ := va_join (wr := [(a_sa, .inl (k_sa, 120, .inl f_sa)), (a_ru, .inl (k_ru, 410, .inl R))]) (w1 := [(a_m, .inr (5, [.int v_th, .ref a_sa, .int v_sz, .int a, .int a, .ref a_ru, .ref a_me, .ref a_le, .int v_n, .ref a_cl, .ref a_te, .ref a_ki, .ref a_ty, .ref a_bl, .ref a_ex, .ref a_lo, .int v_nl, .ref a_ho, .ref a_fi, .int v_nf, .ref a_cz, .int v_nc]))]) hP hD [0] [1, 2] rfl rfl (by decide) (by decide) hk1 hFc hP1 hD1
                        replace hK := (hK.sub (tys' := [(k_sa, .byte), (k_ru, .int)]) [0, 1] rfl).app hK1
                        generalize H1 = H at hP hS ⊢
                        replace hP := hP.sub (ws' := [(a_m, .inr (5, [.int v_th, .ref a_sa, .int v_sz, .int a, .int a, .ref a_ru, .ref a_me, .ref a_le, .int v_n, .ref a_cl, .ref a_te, .ref a_ki, .ref a_ty, .ref a_bl, .ref a_ex, .ref a_lo, .int v_nl, .ref a_ho, .ref a_fi, .int v_nf, .ref a_cz, .int v_nc])), (a_sa, .inl (k_sa, 120, .inl f_sa)), (a_ru, .inl (k_ru, 410, .inl R))]) [2, 0, 1] rfl
                        replace hD := hD.sub (ws' := [(a_m, .inr (5, [.int v_th, .ref a_sa, .int v_sz, .int a, .int a, .ref a_ru, .ref a_me, .ref a_le, .int v_n, .ref a_cl, .ref a_te, .ref a_ki, .ref a_ty, .ref a_bl, .ref a_ex, .ref a_lo, .int v_nl, .ref a_ho, .ref a_fi, .int v_nf, .ref a_cz, .int v_nc])), (a_sa, .inl (k_sa, 120, .inl f_sa)), (a_ru, .inl (k_ru, 410, .inl R))]) [2, 0, 1] (by decide) rfl
                        replace hK := hK.sub (tys' := [(k_sa, .byte), (k_ru, .int)]) [0, 1] rfl
                        have hP9 := hP.sub (ws' := [(a_m, .inr (5, [.int v_th, .ref a_sa, .int v_sz, .int a, .int a, .ref a_ru, .ref a_me, .ref a_le, .int v_n, .ref a_cl, .ref a_te, .ref a_ki, .ref a_ty, .ref a_bl, .ref a_ex, .ref a_lo, .int v_nl, .ref a_ho, .ref a_fi, .int v_nf, .ref a_cz, .int v_nc])), (a_sa, .inl (k_sa, 120, .inl f_sa)), (a_ru, .inl (k_ru, 410, .inl R))]) [0, 1, 2] rfl
                        have hD9 := hD.sub (ws' := [(a_m, .inr (5, [.int v_th, .ref a_sa, .int v_sz, .int a, .int a, .ref a_ru, .ref a_me, .ref a_le, .int v_n, .ref a_cl, .ref a_te, .ref a_ki, .ref a_ty, .ref a_bl, .ref a_ex, .ref a_lo, .int v_nl, .ref a_ho, .ref a_fi, .int v_nf, .ref a_cz, .int v_nc])), (a_sa, .inl (k_sa, 120, .inl f_sa)), (a_ru, .inl (k_ru, 410, .inl R))]) [0, 1, 2] (by decide) rfl
                        have hK9 := hK.sub (tys' := [(k_sa, .byte), (k_ru, .int)]) [0, 1] rfl
                        exact W.zret (v := 0) hx hb hr rfl (fun t ht hW => ⟨⟨0, (), rfl, by rw [← hz, hE], by rw [ht, ← hz, hE]; exact hP9, va_K.moved hW.alike hK9, by rw [← hz, hE]; exact hD9⟩, hS.F ht⟩) hS.2.2 d_M_reads_160
                  · rw [if_neg c_241] at hg_rd1
                    refine lv_goto (tgt := 138) hx hb d_M_reads_109 (by decide) ?_
                    refine lv_iconst (v := 1) hx hb d_M_reads_138 (by decide) ?_
                    refine lv_goto (tgt := 143) hx hb d_M_reads_139 (by decide) ?_
                    refine lv_istore_n (lv' := [(3, .int 1), (2, .int (g_Mg_step (g_Mg_word v_sz a f_sa))), (1, .int la), (0, .ref a_m)]) hx hb d_M_reads_143 rfl hl (by decide) rfl (fun ls hl => ?_)
                    refine lv_iload_n hx hb d_M_reads_144 rfl (lv_at hl 1 rfl) ?_
                    refine lv_if_eq (tgt := 152) hx hb d_M_reads_145 (by decide) (fun c_248 => ?_) (fun c_248 => ?_)
                    · rw [if_pos c_248] at hg_rd1
                      subst hg_rd1
                      dsimp only at hE
                      rw [if_neg (by decide)] at hE
                      rw [if_neg (by decide)] at hE
                      rw [if_pos rfl] at hE
                      refine lv_aload_n hx hb d_M_reads_152 rfl (lv_at hl 3 rfl) ?_
                      refine lv_aload_n hx hb d_M_reads_153 rfl (lv_at hl 3 rfl) ?_
                      refine va_get (D := (dC, dI)) (ci := 5) (v := .int a) (C := "LoanRulesModel") (T := Fz_M) (N := 22) hx hb hts it_M hown hK hP 0 rfl rfl 3 (by decide) (hts _ tw_604) (fun _ h9 => h9) rfl d_M_reads_154 ?_
                      have hPc := hP.sub (ws' := [(a_m, .inr (5, [.int v_th, .ref a_sa, .int v_sz, .int a, .int wr, .ref a_ru, .ref a_me, .ref a_le, .int v_n, .ref a_cl, .ref a_te, .ref a_ki, .ref a_ty, .ref a_bl, .ref a_ex, .ref a_lo, .int v_nl, .ref a_ho, .ref a_fi, .int v_nf, .ref a_cz, .int v_nc]))]) [0] rfl
                      have hKc := hK.sub (tys' := []) [] rfl
                      have hDc := hD.sub (ws' := [(a_m, .inr (5, [.int v_th, .ref a_sa, .int v_sz, .int a, .int wr, .ref a_ru, .ref a_me, .ref a_le, .int v_n, .ref a_cl, .ref a_te, .ref a_ki, .ref a_ty, .ref a_bl, .ref a_ex, .ref a_lo, .int v_nl, .ref a_ho, .ref a_fi, .int v_nf, .ref a_cz, .int v_nc]))]) [0] (by decide) rfl
                      have hFc := va_free (wc := [(a_m, .inr (5, [.int v_th, .ref a_sa, .int v_sz, .int a, .int wr, .ref a_ru, .ref a_me, .ref a_le, .int v_n, .ref a_cl, .ref a_te, .ref a_ki, .ref a_ty, .ref a_bl, .ref a_ex, .ref a_lo, .int v_nl, .ref a_ho, .ref a_fi, .int v_nf, .ref a_cz, .int v_nc]))]) hD hS hA [0] rfl
                      refine va_calli (va_runV (As := [.int a]) (rest := []) ⟨hx, hb, hml, hown, hts⟩ (c_Mg_bad l dC dI adK adV (a_m := a_m) (p0 := a) (v_th := v_th) (a_sa := a_sa) (v_sz := v_sz) (v_at := a) (v_wr := wr) (a_ru := a_ru) (a_me := a_me) (a_le := a_le) (v_n := v_n) (a_cl := a_cl) (a_te := a_te) (a_ki := a_ki) (a_ty := a_ty) (a_bl := a_bl) (a_ex := a_ex) (a_lo := a_lo) (v_nl := v_nl) (a_ho := a_ho) (a_fi := a_fi) (v_nf := v_nf) (a_cz := a_cz) (v_nc := v_nc) (sz := H.size)) (cwV 1 hts (gV tw_688 tw_690 tw_28 tw_46 tw_691) rfl rfl rfl (by decide +kernel) ⟨(Nat.le_of_ble_eq_true rfl), (Nat.le_of_ble_eq_true rfl)⟩) ⟨fun a U g mk q => by obtain ⟨q0, q1, qZ, qP, qK, qD⟩ := q; exact ⟨q0, q1, zz_call qZ, qP, va_K.moved (u := U) (U := U.calling g mk a) (Vm.Alike.refl U.vm) qK, qD⟩, va_recv hKc hPc (ci := 5) (q0 := 0) rfl rfl, fun U hU hW => ⟨rfl, by rw [hU], zz_rw hS hFc hU hW hZ, by rw [hU]; exact hPc, va_K.moved hW.alike hKc, hDc.weaken (fun _ _ _ _ => trivial)⟩⟩ rfl rfl hl.1 rfl (lv_room (Nat.le_of_ble_eq_true rfl)) d_M_reads_157 ⟨(Nat.le_of_ble_eq_true rfl), (Nat.le_of_ble_eq_true rfl)⟩) hS (fun q _ h => hFc q h) hFc (fun r_249 u t H1 locs ht hvm hw_250 hB hz1 hk1 hS => ?_)
                      obtain ⟨hP1, hK1, hD1⟩ := hB
                      rw [ht] at hP1
                      have hK1 := va_K.moved hvm.symm hK1
                      obtain rfl : r_249 = 0 := hw_250
                      obtain ⟨hP, hD⟩ := va_join (wr := [(a_sa, .inl (k_sa, 120, .inl f_sa)), (a_ru, .inl (k_ru, 410, .inl R))]) (w1 := [(a_m, .inr (5, [.int v_th, .ref a_sa, .int v_sz, .int a, .int a, .ref a_ru, .ref a_me, .ref a_le, .int v_n, .ref a_cl, .ref a_te, .ref a_ki, .ref a_ty, .ref a_bl, .ref a_ex, .ref a_lo, .int v_nl, .ref a_ho, .ref a_fi, .int v_nf, .ref a_cz, .int v_nc]))]) hP hD [0] [1, 2] rfl rfl (by decide) (by decide) hk1 hFc hP1 hD1
                      replace hK := (hK.sub (tys' := [(k_sa, .byte), (k_ru, .int)]) [0, 1] rfl).app hK1
                      generalize H1 = H at hP hS ⊢
                      replace hP := hP.sub (ws' := [(a_m, .inr (5, [.int v_th, .ref a_sa, .int v_sz, .int a, .int a, .ref a_ru, .ref a_me, .ref a_le, .int v_n, .ref a_cl, .ref a_te, .ref a_ki, .ref a_ty, .ref a_bl, .ref a_ex, .ref a_lo, .int v_nl, .ref a_ho, .ref a_fi, .int v_nf, .ref a_cz, .int v_nc])), (a_sa, .inl (k_sa, 120, .inl f_sa)), (a_ru, .inl (k_ru, 410, .inl R))]) [2, 0, 1] rfl
                      replace hD := hD.sub (ws' := [(a_m, .inr (5, [.int v_th, .ref a_sa, .int v_sz, .int a, .int a, .ref a_ru, .ref a_me, .ref a_le, .int v_n, .ref a_cl, .ref a_te, .ref a_ki, .ref a_ty, .ref a_bl, .ref a_ex, .ref a_lo, .int v_nl, .ref a_ho, .ref a_fi, .int v_nf, .ref a_cz, .int v_nc])), (a_sa, .inl (k_sa, 120, .inl f_sa)), (a_ru, .inl (k_ru, 410, .inl R))]) [2, 0, 1] (by decide) rfl
                      replace hK := hK.sub (tys' := [(k_sa, .byte), (k_ru, .int)]) [0, 1] rfl
                      have hP9 := hP.sub (ws' := [(a_m, .inr (5, [.int v_th, .ref a_sa, .int v_sz, .int a, .int a, .ref a_ru, .ref a_me, .ref a_le, .int v_n, .ref a_cl, .ref a_te, .ref a_ki, .ref a_ty, .ref a_bl, .ref a_ex, .ref a_lo, .int v_nl, .ref a_ho, .ref a_fi, .int v_nf, .ref a_cz, .int v_nc])), (a_sa, .inl (k_sa, 120, .inl f_sa)), (a_ru, .inl (k_ru, 410, .inl R))]) [0, 1, 2] rfl
                      have hD9 := hD.sub (ws' := [(a_m, .inr (5, [.int v_th, .ref a_sa, .int v_sz, .int a, .int a, .ref a_ru, .ref a_me, .ref a_le, .int v_n, .ref a_cl, .ref a_te, .ref a_ki, .ref a_ty, .ref a_bl, .ref a_ex, .ref a_lo, .int v_nl, .ref a_ho, .ref a_fi, .int v_nf, .ref a_cz, .int v_nc])), (a_sa, .inl (k_sa, 120, .inl f_sa)), (a_ru, .inl (k_ru, 410, .inl R))]) [0, 1, 2] (by decide) rfl
                      have hK9 := hK.sub (tys' := [(k_sa, .byte), (k_ru, .int)]) [0, 1] rfl
                      exact W.zret (v := 0) hx hb hr rfl (fun t ht hW => ⟨⟨0, (), rfl, by rw [← hz, hE], by rw [ht, ← hz, hE]; exact hP9, va_K.moved hW.alike hK9, by rw [← hz, hE]; exact hD9⟩, hS.F ht⟩) hS.2.2 d_M_reads_160
                    · rw [if_neg c_248] at hg_rd1
                      refine lv_iload_n hx hb d_M_reads_148 rfl (lv_at hl 0 rfl) ?_
                      refine lv_if_ne (tgt := 161) hx hb d_M_reads_149 (by decide) (fun c_251 => ?_) (fun c_251 => ?_)
                      · refine lv_aload_n hx hb d_M_reads_161 rfl (lv_at hl 3 rfl) ?_
                        have hPc := hP.sub (ws' := [(a_m, .inr (5, [.int v_th, .ref a_sa, .int v_sz, .int a, .int wr, .ref a_ru, .ref a_me, .ref a_le, .int v_n, .ref a_cl, .ref a_te, .ref a_ki, .ref a_ty, .ref a_bl, .ref a_ex, .ref a_lo, .int v_nl, .ref a_ho, .ref a_fi, .int v_nf, .ref a_cz, .int v_nc])), (a_sa, .inl (k_sa, 120, .inl f_sa))]) [0, 1] rfl
                        have hKc := hK.sub (tys' := [(k_sa, .byte)]) [0] rfl
                        have hDc := hD.sub (ws' := [(a_m, .inr (5, [.int v_th, .ref a_sa, .int v_sz, .int a, .int wr, .ref a_ru, .ref a_me, .ref a_le, .int v_n, .ref a_cl, .ref a_te, .ref a_ki, .ref a_ty, .ref a_bl, .ref a_ex, .ref a_lo, .int v_nl, .ref a_ho, .ref a_fi, .int v_nf, .ref a_cz, .int v_nc])), (a_sa, .inl (k_sa, 120, .inl f_sa))]) [0, 1] (by decide) rfl
                        have hFc := va_free (wc := [(a_m, .inr (5, [.int v_th, .ref a_sa, .int v_sz, .int a, .int wr, .ref a_ru, .ref a_me, .ref a_le, .int v_n, .ref a_cl, .ref a_te, .ref a_ki, .ref a_ty, .ref a_bl, .ref a_ex, .ref a_lo, .int v_nl, .ref a_ho, .ref a_fi, .int v_nf, .ref a_cz, .int v_nc])), (a_sa, .inl (k_sa, 120, .inl f_sa))]) hD hS hA [0, 1] rfl
                        refine va_callv (va_runV (As := []) (rest := []) ⟨hx, hb, hml, hown, hts⟩ (c_Mg_pass l dC dI adK adV (a_m := a_m) (v_th := v_th) (a_sa := a_sa) (v_sz := v_sz) (v_at := a) (v_wr := wr) (a_ru := a_ru) (a_me := a_me) (a_le := a_le) (v_n := v_n) (a_cl := a_cl) (a_te := a_te) (a_ki := a_ki) (a_ty := a_ty) (a_bl := a_bl) (a_ex := a_ex) (a_lo := a_lo) (v_nl := v_nl) (a_ho := a_ho) (a_fi := a_fi) (v_nf := v_nf) (a_cz := a_cz) (v_nc := v_nc) (k_sa := k_sa) (f_sa := f_sa) (sz := H.size) hsz ha) (cwV 0 hts (gV tw_712 tw_714 tw_30 tw_46 tw_715) rfl rfl rfl (by decide +kernel) ⟨(Nat.le_of_ble_eq_true rfl), (Nat.le_of_ble_eq_true rfl)⟩) ⟨fun a U g mk q => by obtain ⟨q0, q1, qZ, qP, qK, qD⟩ := q; exact ⟨q0, q1, zz_call qZ, qP, va_K.moved (u := U) (U := U.calling g mk a) (Vm.Alike.refl U.vm) qK, qD⟩, va_recv hKc hPc (ci := 5) (q0 := 0) rfl rfl, fun U hU hW => ⟨rfl, by rw [hU], zz_rw hS hFc hU hW hZ, by rw [hU]; exact hPc, va_K.moved hW.alike hKc, hDc.weaken (fun _ _ _ _ => trivial)⟩⟩ rfl rfl hl.1 rfl (lv_room (Nat.le_of_ble_eq_true rfl)) d_M_reads_162 ⟨(Nat.le_of_ble_eq_true rfl), (Nat.le_of_ble_eq_true rfl)⟩) hS (fun q _ h => hFc q h) hFc (fun u t H1 locs ht hvm hw_252 hB hz1 hk1 hS => ?_)
                        generalize hg_x_253 : g_Mg_pass v_sz a f_sa = x_253 at hw_252 hB hg_rd1
                        rw [bv_eq] at hg_rd1
                        obtain ⟨hP1, hK1, hD1⟩ := hB
                        rw [ht] at hP1
                        have hK1 := va_K.moved hvm.symm hK1
                        obtain ⟨hP, hD⟩ := va_join (wr := [(a_ru, .inl (k_ru, 410, .inl R))]) (w1 := [(a_m, .inr (5, [.int v_th, .ref a_sa, .int v_sz, .int x_253, .int wr, .ref a_ru, .ref a_me, .ref a_le, .int v_n, .ref a_cl, .ref a_te, .ref a_ki, .ref a_ty, .ref a_bl, .ref a_ex, .ref a_lo, .int v_nl, .ref a_ho, .ref a_fi, .int v_nf, .ref a_cz, .int v_nc])), (a_sa, .inl (k_sa, 120, .inl f_sa))]) hP hD [0, 1] [2] rfl rfl (by decide) (by decide) hk1 hFc hP1 hD1
                        replace hK := (hK.sub (tys' := [(k_ru, .int)]) [1] rfl).app hK1
                        generalize H1 = H at hP hS ⊢
                        replace hP := hP.sub (ws' := [(a_m, .inr (5, [.int v_th, .ref a_sa, .int v_sz, .int x_253, .int wr, .ref a_ru, .ref a_me, .ref a_le, .int v_n, .ref a_cl, .ref a_te, .ref a_ki, .ref a_ty, .ref a_bl, .ref a_ex, .ref a_lo, .int v_nl, .ref a_ho, .ref a_fi, .int v_nf, .ref a_cz, .int v_nc])), (a_sa, .inl (k_sa, 120, .inl f_sa)), (a_ru, .inl (k_ru, 410, .inl R))]) [1, 2, 0] rfl
                        replace hD := hD.sub (ws' := [(a_m, .inr (5, [.int v_th, .ref a_sa, .int v_sz, .int x_253, .int wr, .ref a_ru, .ref a_me, .ref a_le, .int v_n, .ref a_cl, .ref a_te, .ref a_ki, .ref a_ty, .ref a_bl, .ref a_ex, .ref a_lo, .int v_nl, .ref a_ho, .ref a_fi, .int v_nf, .ref a_cz, .int v_nc])), (a_sa, .inl (k_sa, 120, .inl f_sa)), (a_ru, .inl (k_ru, 410, .inl R))]) [1, 2, 0] (by decide) rfl
                        replace hK := hK.sub (tys' := [(k_sa, .byte), (k_ru, .int)]) [1, 0] rfl
                        refine lv_aload_n hx hb d_M_reads_165 rfl (lv_at hl 3 rfl) ?_
                        refine lv_iload_n hx hb d_M_reads_166 rfl (lv_at hl 1 rfl) ?_
                        have hPc := hP.sub (ws' := [(a_m, .inr (5, [.int v_th, .ref a_sa, .int v_sz, .int x_253, .int wr, .ref a_ru, .ref a_me, .ref a_le, .int v_n, .ref a_cl, .ref a_te, .ref a_ki, .ref a_ty, .ref a_bl, .ref a_ex, .ref a_lo, .int v_nl, .ref a_ho, .ref a_fi, .int v_nf, .ref a_cz, .int v_nc])), (a_sa, .inl (k_sa, 120, .inl f_sa)), (a_ru, .inl (k_ru, 410, .inl R))]) [0, 1, 2] rfl
                        have hKc := hK.sub (tys' := [(k_sa, .byte), (k_ru, .int)]) [0, 1] rfl
                        have hDc := hD.sub (ws' := [(a_m, .inr (5, [.int v_th, .ref a_sa, .int v_sz, .int x_253, .int wr, .ref a_ru, .ref a_me, .ref a_le, .int v_n, .ref a_cl, .ref a_te, .ref a_ki, .ref a_ty, .ref a_bl, .ref a_ex, .ref a_lo, .int v_nl, .ref a_ho, .ref a_fi, .int v_nf, .ref a_cz, .int v_nc])), (a_sa, .inl (k_sa, 120, .inl f_sa)), (a_ru, .inl (k_ru, 410, .inl R))]) [0, 1, 2] (by decide) rfl
                        have hFc := va_free (wc := [(a_m, .inr (5, [.int v_th, .ref a_sa, .int v_sz, .int x_253, .int wr, .ref a_ru, .ref a_me, .ref a_le, .int v_n, .ref a_cl, .ref a_te, .ref a_ki, .ref a_ty, .ref a_bl, .ref a_ex, .ref a_lo, .int v_nl, .ref a_ho, .ref a_fi, .int v_nf, .ref a_cz, .int v_nc])), (a_sa, .inl (k_sa, 120, .inl f_sa)), (a_ru, .inl (k_ru, 410, .inl R))]) hD hS hA [0, 1, 2] rfl
                        refine va_calli (va_runV (As := [.int (g_Mg_step (g_Mg_word v_sz a f_sa))]) (rest := []) ⟨hx, hb, hml, hown, hts⟩ (c_Mg_one l dC dI adK adV (a_m := a_m) (p0 := g_Mg_step (g_Mg_word v_sz a f_sa)) (v_th := v_th) (a_sa := a_sa) (v_sz := v_sz) (v_at := x_253) (v_wr := wr) (a_ru := a_ru) (a_me := a_me) (a_le := a_le) (v_n := v_n) (a_cl := a_cl) (a_te := a_te) (a_ki := a_ki) (a_ty := a_ty) (a_bl := a_bl) (a_ex := a_ex) (a_lo := a_lo) (v_nl := v_nl) (a_ho := a_ho) (a_fi := a_fi) (v_nf := v_nf) (a_cz := a_cz) (v_nc := v_nc) (k_sa := k_sa) (f_sa := f_sa) (k_ru := k_ru) (f_ru := R) (sz := H.size) hsz (hg_x_253 ▸ pass_at hsz ha) hn) (cwV 1 hts (gV tw_716 tw_718 tw_31 tw_46 tw_719) rfl rfl rfl (by decide +kernel) ⟨(Nat.le_of_ble_eq_true rfl), (Nat.le_of_ble_eq_true rfl)⟩) ⟨fun a U g mk q => by obtain ⟨q0, q1, qZ, qP, qK, qD⟩ := q; exact ⟨q0, q1, zz_call qZ, qP, va_K.moved (u := U) (U := U.calling g mk a) (Vm.Alike.refl U.vm) qK, qD⟩, va_recv hKc hPc (ci := 5) (q0 := 0) rfl rfl, fun U hU hW => ⟨rfl, by rw [hU], zz_rw hS hFc hU hW hZ, by rw [hU]; exact hPc, va_K.moved hW.alike hKc, hDc.weaken (fun _ _ _ _ => trivial)⟩⟩ rfl rfl hl.1 rfl (lv_room (Nat.le_of_ble_eq_true rfl)) d_M_reads_167 ⟨(Nat.le_of_ble_eq_true rfl), (Nat.le_of_ble_eq_true rfl)⟩) hS (fun q _ h => hFc q h) hFc (fun r_254 u t H1 locs ht hvm hw_255 hB hz1 hk1 hS => ?_)
                        generalize hg_x_256 : g_Mg_one (g_Mg_step (g_Mg_word v_sz a f_sa)) v_sz x_253 wr v_n f_sa R = x_256 at hw_255 hB hg_rd1
                        rw [bv_eq] at hg_rd1
                        obtain ⟨hP1, hK1, hD1⟩ := hB
                        rw [ht] at hP1
                        have hK1 := va_K.moved hvm.symm hK1
                        obtain rfl : r_254 = x_256.1 := hw_255
                        obtain ⟨hP, hD⟩ := va_join (wr := []) (w1 := [(a_m, .inr (5, [.int v_th, .ref a_sa, .int v_sz, .int x_256.2.1, .int x_256.2.2.1, .ref a_ru, .ref a_me, .ref a_le, .int v_n, .ref a_cl, .ref a_te, .ref a_ki, .ref a_ty, .ref a_bl, .ref a_ex, .ref a_lo, .int v_nl, .ref a_ho, .ref a_fi, .int v_nf, .ref a_cz, .int v_nc])), (a_sa, .inl (k_sa, 120, .inl f_sa)), (a_ru, .inl (k_ru, 410, .inl x_256.2.2.2))]) hP hD [0, 1, 2] [] rfl rfl (by decide) (by decide) hk1 hFc hP1 hD1
                        replace hK := (hK.sub (tys' := []) [] rfl).app hK1
                        generalize H1 = H at hP hS ⊢
                        replace hP := hP.sub (ws' := [(a_m, .inr (5, [.int v_th, .ref a_sa, .int v_sz, .int x_256.2.1, .int x_256.2.2.1, .ref a_ru, .ref a_me, .ref a_le, .int v_n, .ref a_cl, .ref a_te, .ref a_ki, .ref a_ty, .ref a_bl, .ref a_ex, .ref a_lo, .int v_nl, .ref a_ho, .ref a_fi, .int v_nf, .ref a_cz, .int v_nc])), (a_sa, .inl (k_sa, 120, .inl f_sa)), (a_ru, .inl (k_ru, 410, .inl x_256.2.2.2))]) [0, 1, 2] rfl
                        replace hD := hD.sub (ws' := [(a_m, .inr (5, [.int v_th, .ref a_sa, .int v_sz, .int x_256.2.1, .int x_256.2.2.1, .ref a_ru, .ref a_me, .ref a_le, .int v_n, .ref a_cl, .ref a_te, .ref a_ki, .ref a_ty, .ref a_bl, .ref a_ex, .ref a_lo, .int v_nl, .ref a_ho, .ref a_fi, .int v_nf, .ref a_cz, .int v_nc])), (a_sa, .inl (k_sa, 120, .inl f_sa)), (a_ru, .inl (k_ru, 410, .inl x_256.2.2.2))]) [0, 1, 2] (by decide) rfl
                        replace hK := hK.sub (tys' := [(k_sa, .byte), (k_ru, .int)]) [0, 1] rfl
                        refine lv_if_ne (tgt := 175) hx hb d_M_reads_170 (by decide) (fun c_257 => ?_) (fun c_257 => ?_)
                        · rw [if_neg c_257] at hg_rd1
                          refine lv_iload_n hx hb d_M_reads_175 rfl (lv_at hl 1 rfl) ?_
                          refine lv_istore_n (lv' := [(1, .int (g_Mg_step (g_Mg_word v_sz a f_sa))), (3, .int 1), (2, .int (g_Mg_step (g_Mg_word v_sz a f_sa))), (0, .ref a_m)]) hx hb d_M_reads_176 rfl hl (by decide) rfl (fun ls hl => ?_)
                          refine lv_goto (tgt := 56) hx hb d_M_reads_177 (by decide) ?_
                          exact ih_rd1 _ _ _ _ _ _ _ ⟨hP, hD, hS, lv_sub hl [0, 3] rfl, ((hg_x_256 ▸ one_at hsz (hg_x_253 ▸ pass_at hsz ha))), (step_le _), (li_mt hla c_180 (step_le _) hm_rd1), hg_rd1⟩
                        · rw [if_pos c_257] at hg_rd1
                          subst hg_rd1
                          dsimp only at hE
                          rw [if_neg (by decide)] at hE
                          rw [if_neg (by decide)] at hE
                          rw [if_neg (by decide)] at hE
                          refine lv_iconst (v := 0) hx hb d_M_reads_173 (by decide) ?_
                          have hP9 := hP.sub (ws' := [(a_m, .inr (5, [.int v_th, .ref a_sa, .int v_sz, .int x_256.2.1, .int x_256.2.2.1, .ref a_ru, .ref a_me, .ref a_le, .int v_n, .ref a_cl, .ref a_te, .ref a_ki, .ref a_ty, .ref a_bl, .ref a_ex, .ref a_lo, .int v_nl, .ref a_ho, .ref a_fi, .int v_nf, .ref a_cz, .int v_nc])), (a_sa, .inl (k_sa, 120, .inl f_sa)), (a_ru, .inl (k_ru, 410, .inl x_256.2.2.2))]) [0, 1, 2] rfl
                          have hD9 := hD.sub (ws' := [(a_m, .inr (5, [.int v_th, .ref a_sa, .int v_sz, .int x_256.2.1, .int x_256.2.2.1, .ref a_ru, .ref a_me, .ref a_le, .int v_n, .ref a_cl, .ref a_te, .ref a_ki, .ref a_ty, .ref a_bl, .ref a_ex, .ref a_lo, .int v_nl, .ref a_ho, .ref a_fi, .int v_nf, .ref a_cz, .int v_nc])), (a_sa, .inl (k_sa, 120, .inl f_sa)), (a_ru, .inl (k_ru, 410, .inl x_256.2.2.2))]) [0, 1, 2] (by decide) rfl
                          have hK9 := hK.sub (tys' := [(k_sa, .byte), (k_ru, .int)]) [0, 1] rfl
                          exact W.zret (v := 0) hx hb hr rfl (fun t ht hW => ⟨⟨0, (), rfl, by rw [← hz, hE], by rw [ht, ← hz, hE]; exact hP9, va_K.moved hW.alike hK9, by rw [← hz, hE]; exact hD9⟩, hS.F ht⟩) hS.2.2 d_M_reads_174
                      · exact absurd c_251 (by decide)
            · rw [if_neg c_175] at hg_rd1
              refine lv_aload_n hx hb d_M_reads_76 rfl (lv_at hl 1 rfl) ?_
              have hPc := hP.sub (ws' := [(a_m, .inr (5, [.int v_th, .ref a_sa, .int v_sz, .int a, .int wr, .ref a_ru, .ref a_me, .ref a_le, .int v_n, .ref a_cl, .ref a_te, .ref a_ki, .ref a_ty, .ref a_bl, .ref a_ex, .ref a_lo, .int v_nl, .ref a_ho, .ref a_fi, .int v_nf, .ref a_cz, .int v_nc])), (a_sa, .inl (k_sa, 120, .inl f_sa))]) [0, 1] rfl
              have hKc := hK.sub (tys' := [(k_sa, .byte)]) [0] rfl
              have hDc := hD.sub (ws' := [(a_m, .inr (5, [.int v_th, .ref a_sa, .int v_sz, .int a, .int wr, .ref a_ru, .ref a_me, .ref a_le, .int v_n, .ref a_cl, .ref a_te, .ref a_ki, .ref a_ty, .ref a_bl, .ref a_ex, .ref a_lo, .int v_nl, .ref a_ho, .ref a_fi, .int v_nf, .ref a_cz, .int v_nc])), (a_sa, .inl (k_sa, 120, .inl f_sa))]) [0, 1] (by decide) rfl
              have hFc := va_free (wc := [(a_m, .inr (5, [.int v_th, .ref a_sa, .int v_sz, .int a, .int wr, .ref a_ru, .ref a_me, .ref a_le, .int v_n, .ref a_cl, .ref a_te, .ref a_ki, .ref a_ty, .ref a_bl, .ref a_ex, .ref a_lo, .int v_nl, .ref a_ho, .ref a_fi, .int v_nf, .ref a_cz, .int v_nc])), (a_sa, .inl (k_sa, 120, .inl f_sa))]) hD hS hA [0, 1] rfl
              refine va_calli (va_runV (As := []) (rest := []) ⟨hx, hb, hml, hown, hts⟩ (c_Mg_space l dC dI adK adV (a_m := a_m) (v_th := v_th) (a_sa := a_sa) (v_sz := v_sz) (v_at := a) (v_wr := wr) (a_ru := a_ru) (a_me := a_me) (a_le := a_le) (v_n := v_n) (a_cl := a_cl) (a_te := a_te) (a_ki := a_ki) (a_ty := a_ty) (a_bl := a_bl) (a_ex := a_ex) (a_lo := a_lo) (v_nl := v_nl) (a_ho := a_ho) (a_fi := a_fi) (v_nf := v_nf) (a_cz := a_cz) (v_nc := v_nc) (k_sa := k_sa) (f_sa := f_sa) (sz := H.size) hsz ha) (cwV 0 hts (gV tw_680 tw_682 tw_26 tw_46 tw_683) rfl rfl rfl (by decide +kernel) ⟨(Nat.le_of_ble_eq_true rfl), (Nat.le_of_ble_eq_true rfl)⟩) ⟨fun a U g mk q => by obtain ⟨q0, q1, qZ, qP, qK, qD⟩ := q; exact ⟨q0, q1, zz_call qZ, qP, va_K.moved (u := U) (U := U.calling g mk a) (Vm.Alike.refl U.vm) qK, qD⟩, va_recv hKc hPc (ci := 5) (q0 := 0) rfl rfl, fun U hU hW => ⟨rfl, by rw [hU], zz_rw hS hFc hU hW hZ, by rw [hU]; exact hPc, va_K.moved hW.alike hKc, hDc.weaken (fun _ _ _ _ => trivial)⟩⟩ rfl rfl hl.1 rfl (lv_room (Nat.le_of_ble_eq_true rfl)) d_M_reads_77 ⟨(Nat.le_of_ble_eq_true rfl), (Nat.le_of_ble_eq_true rfl)⟩) hS (fun q _ h => hFc q h) hFc (fun r_258 u t H1 locs ht hvm hw_259 hB hz1 hk1 hS => ?_)
              generalize hg_x_260 : g_Mg_space v_sz a wr f_sa = x_260 at hw_259 hB hg_rd1
              rw [bv_eq] at hg_rd1
              obtain ⟨hP1, hK1, hD1⟩ := hB
              rw [ht] at hP1
              have hK1 := va_K.moved hvm.symm hK1
              obtain rfl : r_258 = x_260.1 := hw_259
              obtain ⟨hP, hD⟩ := va_join (wr := [(a_ru, .inl (k_ru, 410, .inl R))]) (w1 := [(a_m, .inr (5, [.int v_th, .ref a_sa, .int v_sz, .int x_260.2.1, .int x_260.2.2, .ref a_ru, .ref a_me, .ref a_le, .int v_n, .ref a_cl, .ref a_te, .ref a_ki, .ref a_ty, .ref a_bl, .ref a_ex, .ref a_lo, .int v_nl, .ref a_ho, .ref a_fi, .int v_nf, .ref a_cz, .int v_nc])), (a_sa, .inl (k_sa, 120, .inl f_sa))]) hP hD [0, 1] [2] rfl rfl (by decide) (by decide) hk1 hFc hP1 hD1
              replace hK := (hK.sub (tys' := [(k_ru, .int)]) [1] rfl).app hK1
              generalize H1 = H at hP hS ⊢
              replace hP := hP.sub (ws' := [(a_m, .inr (5, [.int v_th, .ref a_sa, .int v_sz, .int x_260.2.1, .int x_260.2.2, .ref a_ru, .ref a_me, .ref a_le, .int v_n, .ref a_cl, .ref a_te, .ref a_ki, .ref a_ty, .ref a_bl, .ref a_ex, .ref a_lo, .int v_nl, .ref a_ho, .ref a_fi, .int v_nf, .ref a_cz, .int v_nc])), (a_sa, .inl (k_sa, 120, .inl f_sa)), (a_ru, .inl (k_ru, 410, .inl R))]) [1, 2, 0] rfl
              replace hD := hD.sub (ws' := [(a_m, .inr (5, [.int v_th, .ref a_sa, .int v_sz, .int x_260.2.1, .int x_260.2.2, .ref a_ru, .ref a_me, .ref a_le, .int v_n, .ref a_cl, .ref a_te, .ref a_ki, .ref a_ty, .ref a_bl, .ref a_ex, .ref a_lo, .int v_nl, .ref a_ho, .ref a_fi, .int v_nf, .ref a_cz, .int v_nc])), (a_sa, .inl (k_sa, 120, .inl f_sa)), (a_ru, .inl (k_ru, 410, .inl R))]) [1, 2, 0] (by decide) rfl
              replace hK := hK.sub (tys' := [(k_sa, .byte), (k_ru, .int)]) [1, 0] rfl
              refine lv_if_ne (tgt := 85) hx hb d_M_reads_80 (by decide) (fun c_261 => ?_) (fun c_261 => ?_)
              · rw [if_neg c_261] at hg_rd1
                refine lv_aload_n hx hb d_M_reads_85 rfl (lv_at hl 1 rfl) ?_
                have hPc := hP.sub (ws' := [(a_m, .inr (5, [.int v_th, .ref a_sa, .int v_sz, .int x_260.2.1, .int x_260.2.2, .ref a_ru, .ref a_me, .ref a_le, .int v_n, .ref a_cl, .ref a_te, .ref a_ki, .ref a_ty, .ref a_bl, .ref a_ex, .ref a_lo, .int v_nl, .ref a_ho, .ref a_fi, .int v_nf, .ref a_cz, .int v_nc])), (a_sa, .inl (k_sa, 120, .inl f_sa))]) [0, 1] rfl
                have hKc := hK.sub (tys' := [(k_sa, .byte)]) [0] rfl
                refine vp_callSl (va_Run.run (va_runV (As := []) (rest := []) ⟨hx, hb, hml, hown, hts⟩ (c_Mg_word l dC dI adK adV (a_m := a_m) (v_th := v_th) (a_sa := a_sa) (v_sz := v_sz) (v_at := x_260.2.1) (v_wr := x_260.2.2) (a_ru := a_ru) (a_me := a_me) (a_le := a_le) (v_n := v_n) (a_cl := a_cl) (a_te := a_te) (a_ki := a_ki) (a_ty := a_ty) (a_bl := a_bl) (a_ex := a_ex) (a_lo := a_lo) (v_nl := v_nl) (a_ho := a_ho) (a_fi := a_fi) (v_nf := v_nf) (a_cz := a_cz) (v_nc := v_nc) (k_sa := k_sa) (f_sa := f_sa) hsz (hg_x_260 ▸ space_at hsz ha)) (cwV 0 hts (gV tw_692 tw_694 tw_29 tw_46 tw_695) rfl rfl rfl (by decide +kernel) ⟨(Nat.le_of_ble_eq_true rfl), (Nat.le_of_ble_eq_true rfl)⟩) ⟨fun a U g mk q => by obtain ⟨q0, qZ, qP, qK⟩ := q; exact ⟨q0, zz_call qZ, qP, va_K.moved (u := U) (U := U.calling g mk a) (Vm.Alike.refl U.vm) qK⟩, va_recv hKc hPc (ci := 5) (q0 := 0) rfl rfl, fun U hU hW => ⟨rfl, zz_ro hS hU hW hZ, by rw [hU]; exact hPc, va_K.moved hW.alike hKc⟩⟩ rfl rfl hl.1 rfl (lv_room (Nat.le_of_ble_eq_true rfl)) d_M_reads_86 ⟨(Nat.le_of_ble_eq_true rfl), (Nat.le_of_ble_eq_true rfl)⟩)) (fun r_262 hw_263 => ?_)
                clear hPc hKc
                subst hw_263
                have hPc := hP.sub (ws' := []) [] rfl
                have hKc := hK.sub (tys' := []) [] rfl
                refine vp_callSi (va_Run.run (va_runS (As := [.long (g_Mg_word v_sz x_260.2.1 f_sa)]) (rest := []) ⟨hx, hb, hml, hown, hts⟩ (c_Mg_step l dC dI adK adV (p0 := g_Mg_word v_sz x_260.2.1 f_sa)) (va_cwS 1 hts (gS tw_699 tw_700 tw_46 tw_701) rfl rfl rfl (by decide +kernel) ⟨(Nat.le_of_ble_eq_true rfl), (Nat.le_of_ble_eq_true rfl)⟩) ⟨fun a U g mk q => by obtain ⟨q0, qZ, qP, qK⟩ := q; exact ⟨q0, zz_call qZ, qP, va_K.moved (u := U) (U := U.calling g mk a) (Vm.Alike.refl U.vm) qK⟩, fun U hU hW => ⟨rfl, zz_ro hS hU hW hZ, by rw [hU]; exact hPc, va_K.moved hW.alike hKc⟩⟩ rfl rfl hl.1 rfl (lv_room (Nat.le_of_ble_eq_true rfl)) d_M_reads_89 ⟨(Nat.le_of_ble_eq_true rfl), (Nat.le_of_ble_eq_true rfl)⟩)) (fun r_264 hw_265 => ?_)
                clear hPc hKc
                subst hw_265
                refine lv_istore_n (lv' := [(2, .int (g_Mg_step (g_Mg_word v_sz x_260.2.1 f_sa))), (1, .int la), (0, .ref a_m)]) hx hb d_M_reads_92 rfl hl (by decide) rfl (fun ls hl => ?_)
                refine lv_iload_n hx hb d_M_reads_93 rfl (lv_at hl 0 rfl) ?_
                refine lv_iload_n hx hb d_M_reads_94 rfl (lv_at hl 1 rfl) ?_
                refine lv_icmp_le (tgt := 142) hx hb d_M_reads_95 (by decide) (fun c_266 => ?_) (fun c_266 => ?_)
                · rw [if_pos c_266] at hg_rd1
                  refine lv_iconst (v := 0) hx hb d_M_reads_142 (by decide) ?_
                  refine lv_istore_n (lv' := [(3, .int 0), (2, .int (g_Mg_step (g_Mg_word v_sz x_260.2.1 f_sa))), (1, .int la), (0, .ref a_m)]) hx hb d_M_reads_143 rfl hl (by decide) rfl (fun ls hl => ?_)
                  refine lv_iload_n hx hb d_M_reads_144 rfl (lv_at hl 1 rfl) ?_
                  refine lv_if_eq (tgt := 152) hx hb d_M_reads_145 (by decide) (fun c_267 => ?_) (fun c_267 => ?_)
                  · subst hg_rd1
                    dsimp only at hE
                    rw [if_neg (by decide)] at hE
                    rw [if_neg (by decide)] at hE
                    rw [if_pos rfl] at hE
                    refine lv_aload_n hx hb d_M_reads_152 rfl (lv_at hl 3 rfl) ?_
                    refine lv_aload_n hx hb d_M_reads_153 rfl (lv_at hl 3 rfl) ?_
                    refine va_get (D := (dC, dI)) (ci := 5) (v := .int x_260.2.1) (C := "LoanRulesModel") (T := Fz_M) (N := 22) hx hb hts it_M hown hK hP 0 rfl rfl 3 (by decide) (hts _ tw_604) (fun _ h9 => h9) rfl d_M_reads_154 ?_
                    have hPc := hP.sub (ws' := [(a_m, .inr (5, [.int v_th, .ref a_sa, .int v_sz, .int x_260.2.1, .int x_260.2.2, .ref a_ru, .ref a_me, .ref a_le, .int v_n, .ref a_cl, .ref a_te, .ref a_ki, .ref a_ty, .ref a_bl, .ref a_ex, .ref a_lo, .int v_nl, .ref a_ho, .ref a_fi, .int v_nf, .ref a_cz, .int v_nc]))]) [0] rfl
                    have hKc := hK.sub (tys' := []) [] rfl
                    have hDc := hD.sub (ws' := [(a_m, .inr (5, [.int v_th, .ref a_sa, .int v_sz, .int x_260.2.1, .int x_260.2.2, .ref a_ru, .ref a_me, .ref a_le, .int v_n, .ref a_cl, .ref a_te, .ref a_ki, .ref a_ty, .ref a_bl, .ref a_ex, .ref a_lo, .int v_nl, .ref a_ho, .ref a_fi, .int v_nf, .ref a_cz, .int v_nc]))]) [0] (by decide) rfl
                    have hFc := va_free (wc := [(a_m, .inr (5, [.int v_th, .ref a_sa, .int v_sz, .int x_260.2.1, .int x_260.2.2, .ref a_ru, .ref a_me, .ref a_le, .int v_n, .ref a_cl, .ref a_te, .ref a_ki, .ref a_ty, .ref a_bl, .ref a_ex, .ref a_lo, .int v_nl, .ref a_ho, .ref a_fi, .int v_nf, .ref a_cz, .int v_nc]))]) hD hS hA [0] rfl
                    refine va_calli (va_runV (As := [.int x_260.2.1]) (rest := []) ⟨hx, hb, hml, hown, hts⟩ (c_Mg_bad l dC dI adK adV (a_m := a_m) (p0 := x_260.2.1) (v_th := v_th) (a_sa := a_sa) (v_sz := v_sz) (v_at := x_260.2.1) (v_wr := x_260.2.2) (a_ru := a_ru) (a_me := a_me) (a_le := a_le) (v_n := v_n) (a_cl := a_cl) (a_te := a_te) (a_ki := a_ki) (a_ty := a_ty) (a_bl := a_bl) (a_ex := a_ex) (a_lo := a_lo) (v_nl := v_nl) (a_ho := a_ho) (a_fi := a_fi) (v_nf := v_nf) (a_cz := a_cz) (v_nc := v_nc) (sz := H.size)) (cwV 1 hts (gV tw_688 tw_690 tw_28 tw_46 tw_691) rfl rfl rfl (by decide +kernel) ⟨(Nat.le_of_ble_eq_true rfl), (Nat.le_of_ble_eq_true rfl)⟩) ⟨fun a U g mk q => by obtain ⟨q0, q1, qZ, qP, qK, qD⟩ := q; exact ⟨q0, q1, zz_call qZ, qP, va_K.moved (u := U) (U := U.calling g mk a) (Vm.Alike.refl U.vm) qK, qD⟩, va_recv hKc hPc (ci := 5) (q0 := 0) rfl rfl, fun U hU hW => ⟨rfl, by rw [hU], zz_rw hS hFc hU hW hZ, by rw [hU]; exact hPc, va_K.moved hW.alike hKc, hDc.weaken (fun _ _ _ _ => trivial)⟩⟩ rfl rfl hl.1 rfl (lv_room (Nat.le_of_ble_eq_true rfl)) d_M_reads_157 ⟨(Nat.le_of_ble_eq_true rfl), (Nat.le_of_ble_eq_true rfl)⟩) hS (fun q _ h => hFc q h) hFc (fun r_268 u t H1 locs ht hvm hw_269 hB hz1 hk1 hS => ?_)
                    obtain ⟨hP1, hK1, hD1⟩ := hB
                    rw [ht] at hP1
                    have hK1 := va_K.moved hvm.symm hK1
                    obtain rfl : r_268 = 0 := hw_269
                    obtain ⟨hP, hD⟩ := va_join (wr := [(a_sa, .inl (k_sa, 120, .inl f_sa)), (a_ru, .inl (k_ru, 410, .inl R))]) (w1 := [(a_m, .inr (5, [.int v_th, .ref a_sa, .int v_sz, .int x_260.2.1, .int x_260.2.1, .ref a_ru, .ref a_me, .ref a_le, .int v_n, .ref a_cl, .ref a_te, .ref a_ki, .ref a_ty, .ref a_bl, .ref a_ex, .ref a_lo, .int v_nl, .ref a_ho, .ref a_fi, .int v_nf, .ref a_cz, .int v_nc]))]) hP hD [0] [1, 2] rfl rfl (by decide) (by decide) hk1 hFc hP1 hD1
                    replace hK := (hK.sub (tys' := [(k_sa, .byte), (k_ru, .int)]) [0, 1] rfl).app hK1
                    generalize H1 = H at hP hS ⊢
                    replace hP := hP.sub (ws' := [(a_m, .inr (5, [.int v_th, .ref a_sa, .int v_sz, .int x_260.2.1, .int x_260.2.1, .ref a_ru, .ref a_me, .ref a_le, .int v_n, .ref a_cl, .ref a_te, .ref a_ki, .ref a_ty, .ref a_bl, .ref a_ex, .ref a_lo, .int v_nl, .ref a_ho, .ref a_fi, .int v_nf, .ref a_cz, .int v_nc])), (a_sa, .inl (k_sa, 120, .inl f_sa)), (a_ru, .inl (k_ru, 410, .inl R))]) [2, 0, 1] rfl
                    replace hD := hD.sub (ws' := [(a_m, .inr (5, [.int v_th, .ref a_sa, .int v_sz, .int x_260.2.1, .int x_260.2.1, .ref a_ru, .ref a_me, .ref a_le, .int v_n, .ref a_cl, .ref a_te, .ref a_ki, .ref a_ty, .ref a_bl, .ref a_ex, .ref a_lo, .int v_nl, .ref a_ho, .ref a_fi, .int v_nf, .ref a_cz, .int v_nc])), (a_sa, .inl (k_sa, 120, .inl f_sa)), (a_ru, .inl (k_ru, 410, .inl R))]) [2, 0, 1] (by decide) rfl
                    replace hK := hK.sub (tys' := [(k_sa, .byte), (k_ru, .int)]) [0, 1] rfl
                    have hP9 := hP.sub (ws' := [(a_m, .inr (5, [.int v_th, .ref a_sa, .int v_sz, .int x_260.2.1, .int x_260.2.1, .ref a_ru, .ref a_me, .ref a_le, .int v_n, .ref a_cl, .ref a_te, .ref a_ki, .ref a_ty, .ref a_bl, .ref a_ex, .ref a_lo, .int v_nl, .ref a_ho, .ref a_fi, .int v_nf, .ref a_cz, .int v_nc])), (a_sa, .inl (k_sa, 120, .inl f_sa)), (a_ru, .inl (k_ru, 410, .inl R))]) [0, 1, 2] rfl
                    have hD9 := hD.sub (ws' := [(a_m, .inr (5, [.int v_th, .ref a_sa, .int v_sz, .int x_260.2.1, .int x_260.2.1, .ref a_ru, .ref a_me, .ref a_le, .int v_n, .ref a_cl, .ref a_te, .ref a_ki, .ref a_ty, .ref a_bl, .ref a_ex, .ref a_lo, .int v_nl, .ref a_ho, .ref a_fi, .int v_nf, .ref a_cz, .int v_nc])), (a_sa, .inl (k_sa, 120, .inl f_sa)), (a_ru, .inl (k_ru, 410, .inl R))]) [0, 1, 2] (by decide) rfl
                    have hK9 := hK.sub (tys' := [(k_sa, .byte), (k_ru, .int)]) [0, 1] rfl
                    exact W.zret (v := 0) hx hb hr rfl (fun t ht hW => ⟨⟨0, (), rfl, by rw [← hz, hE], by rw [ht, ← hz, hE]; exact hP9, va_K.moved hW.alike hK9, by rw [← hz, hE]; exact hD9⟩, hS.F ht⟩) hS.2.2 d_M_reads_160
                  · refine lv_iload_n hx hb d_M_reads_148 rfl (lv_at hl 0 rfl) ?_
                    refine lv_if_ne (tgt := 161) hx hb d_M_reads_149 (by decide) (fun c_270 => ?_) (fun c_270 => ?_)
                    · exact absurd (by decide) c_270
                    · subst hg_rd1
                      dsimp only at hE
                      rw [if_neg (by decide)] at hE
                      rw [if_neg (by decide)] at hE
                      rw [if_pos rfl] at hE
                      refine lv_aload_n hx hb d_M_reads_152 rfl (lv_at hl 3 rfl) ?_
                      refine lv_aload_n hx hb d_M_reads_153 rfl (lv_at hl 3 rfl) ?_
                      refine va_get (D := (dC, dI)) (ci := 5) (v := .int x_260.2.1) (C := "LoanRulesModel") (T := Fz_M) (N := 22) hx hb hts it_M hown hK hP 0 rfl rfl 3 (by decide) (hts _ tw_604) (fun _ h9 => h9) rfl d_M_reads_154 ?_
                      have hPc := hP.sub (ws' := [(a_m, .inr (5, [.int v_th, .ref a_sa, .int v_sz, .int x_260.2.1, .int x_260.2.2, .ref a_ru, .ref a_me, .ref a_le, .int v_n, .ref a_cl, .ref a_te, .ref a_ki, .ref a_ty, .ref a_bl, .ref a_ex, .ref a_lo, .int v_nl, .ref a_ho, .ref a_fi, .int v_nf, .ref a_cz, .int v_nc]))]) [0] rfl
                      have hKc := hK.sub (tys' := []) [] rfl
                      have hDc := hD.sub (ws' := [(a_m, .inr (5, [.int v_th, .ref a_sa, .int v_sz, .int x_260.2.1, .int x_260.2.2, .ref a_ru, .ref a_me, .ref a_le, .int v_n, .ref a_cl, .ref a_te, .ref a_ki, .ref a_ty, .ref a_bl, .ref a_ex, .ref a_lo, .int v_nl, .ref a_ho, .ref a_fi, .int v_nf, .ref a_cz, .int v_nc]))]) [0] (by decide) rfl
                      have hFc := va_free (wc := [(a_m, .inr (5, [.int v_th, .ref a_sa, .int v_sz, .int x_260.2.1, .int x_260.2.2, .ref a_ru, .ref a_me, .ref a_le, .int v_n, .ref a_cl, .ref a_te, .ref a_ki, .ref a_ty, .ref a_bl, .ref a_ex, .ref a_lo, .int v_nl, .ref a_ho, .ref a_fi, .int v_nf, .ref a_cz, .int v_nc]))]) hD hS hA [0] rfl
                      refine va_calli (va_runV (As := [.int x_260.2.1]) (rest := []) ⟨hx, hb, hml, hown, hts⟩ (c_Mg_bad l dC dI adK adV (a_m := a_m) (p0 := x_260.2.1) (v_th := v_th) (a_sa := a_sa) (v_sz := v_sz) (v_at := x_260.2.1) (v_wr := x_260.2.2) (a_ru := a_ru) (a_me := a_me) (a_le := a_le) (v_n := v_n) (a_cl := a_cl) (a_te := a_te) (a_ki := a_ki) (a_ty := a_ty) (a_bl := a_bl) (a_ex := a_ex) (a_lo := a_lo) (v_nl := v_nl) (a_ho := a_ho) (a_fi := a_fi) (v_nf := v_nf) (a_cz := a_cz) (v_nc := v_nc) (sz := H.size)) (cwV 1 hts (gV tw_688 tw_690 tw_28 tw_46 tw_691) rfl rfl rfl (by decide +kernel) ⟨(Nat.le_of_ble_eq_true rfl), (Nat.le_of_ble_eq_true rfl)⟩) ⟨fun a U g mk q => by obtain ⟨q0, q1, qZ, qP, qK, qD⟩ := q; exact ⟨q0, q1, zz_call qZ, qP, va_K.moved (u := U) (U := U.calling g mk a) (Vm.Alike.refl U.vm) qK, qD⟩, va_recv hKc hPc (ci := 5) (q0 := 0) rfl rfl, fun U hU hW => ⟨rfl, by rw [hU], zz_rw hS hFc hU hW hZ, by rw [hU]; exact hPc, va_K.moved hW.alike hKc, hDc.weaken (fun _ _ _ _ => trivial)⟩⟩ rfl rfl hl.1 rfl (lv_room (Nat.le_of_ble_eq_true rfl)) d_M_reads_157 ⟨(Nat.le_of_ble_eq_true rfl), (Nat.le_of_ble_eq_true rfl)⟩) hS (fun q _ h => hFc q h) hFc (fun r_271 u t H1 locs ht hvm hw_272 hB hz1 hk1 hS => ?_)
                      obtain ⟨hP1, hK1, hD1⟩ := hB
                      rw [ht] at hP1
                      have hK1 := va_K.moved hvm.symm hK1
                      obtain rfl : r_271 = 0 := hw_272
                      obtain ⟨hP, hD⟩ := va_join (wr := [(a_sa, .inl (k_sa, 120, .inl f_sa)), (a_ru, .inl (k_ru, 410, .inl R))]) (w1 := [(a_m, .inr (5, [.int v_th, .ref a_sa, .int v_sz, .int x_260.2.1, .int x_260.2.1, .ref a_ru, .ref a_me, .ref a_le, .int v_n, .ref a_cl, .ref a_te, .ref a_ki, .ref a_ty, .ref a_bl, .ref a_ex, .ref a_lo, .int v_nl, .ref a_ho, .ref a_fi, .int v_nf, .ref a_cz, .int v_nc]))]) hP hD [0] [1, 2] rfl rfl (by decide) (by decide) hk1 hFc hP1 hD1
                      replace hK := (hK.sub (tys' := [(k_sa, .byte), (k_ru, .int)]) [0, 1] rfl).app hK1
                      generalize H1 = H at hP hS ⊢
                      replace hP := hP.sub (ws' := [(a_m, .inr (5, [.int v_th, .ref a_sa, .int v_sz, .int x_260.2.1, .int x_260.2.1, .ref a_ru, .ref a_me, .ref a_le, .int v_n, .ref a_cl, .ref a_te, .ref a_ki, .ref a_ty, .ref a_bl, .ref a_ex, .ref a_lo, .int v_nl, .ref a_ho, .ref a_fi, .int v_nf, .ref a_cz, .int v_nc])), (a_sa, .inl (k_sa, 120, .inl f_sa)), (a_ru, .inl (k_ru, 410, .inl R))]) [2, 0, 1] rfl
                      replace hD := hD.sub (ws' := [(a_m, .inr (5, [.int v_th, .ref a_sa, .int v_sz, .int x_260.2.1, .int x_260.2.1, .ref a_ru, .ref a_me, .ref a_le, .int v_n, .ref a_cl, .ref a_te, .ref a_ki, .ref a_ty, .ref a_bl, .ref a_ex, .ref a_lo, .int v_nl, .ref a_ho, .ref a_fi, .int v_nf, .ref a_cz, .int v_nc])), (a_sa, .inl (k_sa, 120, .inl f_sa)), (a_ru, .inl (k_ru, 410, .inl R))]) [2, 0, 1] (by decide) rfl
                      replace hK := hK.sub (tys' := [(k_sa, .byte), (k_ru, .int)]) [0, 1] rfl
                      have hP9 := hP.sub (ws' := [(a_m, .inr (5, [.int v_th, .ref a_sa, .int v_sz, .int x_260.2.1, .int x_260.2.1, .ref a_ru, .ref a_me, .ref a_le, .int v_n, .ref a_cl, .ref a_te, .ref a_ki, .ref a_ty, .ref a_bl, .ref a_ex, .ref a_lo, .int v_nl, .ref a_ho, .ref a_fi, .int v_nf, .ref a_cz, .int v_nc])), (a_sa, .inl (k_sa, 120, .inl f_sa)), (a_ru, .inl (k_ru, 410, .inl R))]) [0, 1, 2] rfl
                      have hD9 := hD.sub (ws' := [(a_m, .inr (5, [.int v_th, .ref a_sa, .int v_sz, .int x_260.2.1, .int x_260.2.1, .ref a_ru, .ref a_me, .ref a_le, .int v_n, .ref a_cl, .ref a_te, .ref a_ki, .ref a_ty, .ref a_bl, .ref a_ex, .ref a_lo, .int v_nl, .ref a_ho, .ref a_fi, .int v_nf, .ref a_cz, .int v_nc])), (a_sa, .inl (k_sa, 120, .inl f_sa)), (a_ru, .inl (k_ru, 410, .inl R))]) [0, 1, 2] (by decide) rfl
                      have hK9 := hK.sub (tys' := [(k_sa, .byte), (k_ru, .int)]) [0, 1] rfl
                      exact W.zret (v := 0) hx hb hr rfl (fun t ht hW => ⟨⟨0, (), rfl, by rw [← hz, hE], by rw [ht, ← hz, hE]; exact hP9, va_K.moved hW.alike hK9, by rw [← hz, hE]; exact hD9⟩, hS.F ht⟩) hS.2.2 d_M_reads_160
                · rw [if_neg c_266] at hg_rd1
                  refine lv_iload_n hx hb d_M_reads_98 rfl (lv_at hl 1 rfl) ?_
                  refine lv_iconst (v := 4) hx hb d_M_reads_99 (by decide) ?_
                  refine lv_icmp_ge (tgt := 112) hx hb d_M_reads_100 (by decide) (fun c_273 => ?_) (fun c_273 => ?_)
                  · rw [if_pos c_273] at hg_rd1
                    refine lv_iload_n hx hb d_M_reads_112 rfl (lv_at hl 1 rfl) ?_
                    refine lv_iconst (v := 5) hx hb d_M_reads_113 (by decide) ?_
                    refine lv_icmp_eq (tgt := 123) hx hb d_M_reads_114 (by decide) (fun c_274 => ?_) (fun c_274 => ?_)
                    · rw [if_pos c_274] at hg_rd1
                      refine lv_iload_n hx hb d_M_reads_123 rfl (lv_at hl 0 rfl) ?_
                      refine lv_bipush (v := 10) hx hb d_M_reads_124 (by decide) ?_
                      refine lv_icmp_ne (tgt := 142) hx hb d_M_reads_126 (by decide) (fun c_275 => ?_) (fun c_275 => ?_)
                      · rw [if_neg c_275] at hg_rd1
                        refine lv_iconst (v := 0) hx hb d_M_reads_142 (by decide) ?_
                        refine lv_istore_n (lv' := [(3, .int 0), (2, .int (g_Mg_step (g_Mg_word v_sz x_260.2.1 f_sa))), (1, .int la), (0, .ref a_m)]) hx hb d_M_reads_143 rfl hl (by decide) rfl (fun ls hl => ?_)
                        refine lv_iload_n hx hb d_M_reads_144 rfl (lv_at hl 1 rfl) ?_
                        refine lv_if_eq (tgt := 152) hx hb d_M_reads_145 (by decide) (fun c_276 => ?_) (fun c_276 => ?_)
                        · subst hg_rd1
                          dsimp only at hE
                          rw [if_neg (by decide)] at hE
                          rw [if_neg (by decide)] at hE
                          rw [if_pos rfl] at hE
                          refine lv_aload_n hx hb d_M_reads_152 rfl (lv_at hl 3 rfl) ?_
                          refine lv_aload_n hx hb d_M_reads_153 rfl (lv_at hl 3 rfl) ?_
                          refine va_get (D := (dC, dI)) (ci := 5) (v := .int x_260.2.1) (C := "LoanRulesModel") (T := Fz_M) (N := 22) hx hb hts it_M hown hK hP 0 rfl rfl 3 (by decide) (hts _ tw_604) (fun _ h9 => h9) rfl d_M_reads_154 ?_
                          have hPc := hP.sub (ws' := [(a_m, .inr (5, [.int v_th, .ref a_sa, .int v_sz, .int x_260.2.1, .int x_260.2.2, .ref a_ru, .ref a_me, .ref a_le, .int v_n, .ref a_cl, .ref a_te, .ref a_ki, .ref a_ty, .ref a_bl, .ref a_ex, .ref a_lo, .int v_nl, .ref a_ho, .ref a_fi, .int v_nf, .ref a_cz, .int v_nc]))]) [0] rfl
                          have hKc := hK.sub (tys' := []) [] rfl
                          have hDc := hD.sub (ws' := [(a_m, .inr (5, [.int v_th, .ref a_sa, .int v_sz, .int x_260.2.1, .int x_260.2.2, .ref a_ru, .ref a_me, .ref a_le, .int v_n, .ref a_cl, .ref a_te, .ref a_ki, .ref a_ty, .ref a_bl, .ref a_ex, .ref a_lo, .int v_nl, .ref a_ho, .ref a_fi, .int v_nf, .ref a_cz, .int v_nc]))]) [0] (by decide) rfl
                          have hFc := va_free (wc := [(a_m, .inr (5, [.int v_th, .ref a_sa, .int v_sz, .int x_260.2.1, .int x_260.2.2, .ref a_ru, .ref a_me, .ref a_le, .int v_n, .ref a_cl, .ref a_te, .ref a_ki, .ref a_ty, .ref a_bl, .ref a_ex, .ref a_lo, .int v_nl, .ref a_ho, .ref a_fi, .int v_nf, .ref a_cz, .int v_nc]))]) hD hS hA [0] rfl
                          refine va_calli (va_runV (As := [.int x_260.2.1]) (rest := []) ⟨hx, hb, hml, hown, hts⟩ (c_Mg_bad l dC dI adK adV (a_m := a_m) (p0 := x_260.2.1) (v_th := v_th) (a_sa := a_sa) (v_sz := v_sz) (v_at := x_260.2.1) (v_wr := x_260.2.2) (a_ru := a_ru) (a_me := a_me) (a_le := a_le) (v_n := v_n) (a_cl := a_cl) (a_te := a_te) (a_ki := a_ki) (a_ty := a_ty) (a_bl := a_bl) (a_ex := a_ex) (a_lo := a_lo) (v_nl := v_nl) (a_ho := a_ho) (a_fi := a_fi) (v_nf := v_nf) (a_cz := a_cz) (v_nc := v_nc) (sz := H.size)) (cwV 1 hts (gV tw_688 tw_690 tw_28 tw_46 tw_691) rfl rfl rfl (by decide +kernel) ⟨(Nat.le_of_ble_eq_true rfl), (Nat.le_of_ble_eq_true rfl)⟩) ⟨fun a U g mk q => by obtain ⟨q0, q1, qZ, qP, qK, qD⟩ := q; exact ⟨q0, q1, zz_call qZ, qP, va_K.moved (u := U) (U := U.calling g mk a) (Vm.Alike.refl U.vm) qK, qD⟩, va_recv hKc hPc (ci := 5) (q0 := 0) rfl rfl, fun U hU hW => ⟨rfl, by rw [hU], zz_rw hS hFc hU hW hZ, by rw [hU]; exact hPc, va_K.moved hW.alike hKc, hDc.weaken (fun _ _ _ _ => trivial)⟩⟩ rfl rfl hl.1 rfl (lv_room (Nat.le_of_ble_eq_true rfl)) d_M_reads_157 ⟨(Nat.le_of_ble_eq_true rfl), (Nat.le_of_ble_eq_true rfl)⟩) hS (fun q _ h => hFc q h) hFc (fun r_277 u t H1 locs ht hvm hw_278 hB hz1 hk1 hS => ?_)
                          obtain ⟨hP1, hK1, hD1⟩ := hB
                          rw [ht] at hP1
                          have hK1 := va_K.moved hvm.symm hK1
                          obtain rfl : r_277 = 0 := hw_278
                          obtain ⟨hP, hD⟩ := va_join (wr := [(a_sa, .inl (k_sa, 120, .inl f_sa)), (a_ru, .inl (k_ru, 410, .inl R))]) (w1 := [(a_m, .inr (5, [.int v_th, .ref a_sa, .int v_sz, .int x_260.2.1, .int x_260.2.1, .ref a_ru, .ref a_me, .ref a_le, .int v_n, .ref a_cl, .ref a_te, .ref a_ki, .ref a_ty, .ref a_bl, .ref a_ex, .ref a_lo, .int v_nl, .ref a_ho, .ref a_fi, .int v_nf, .ref a_cz, .int v_nc]))]) hP hD [0] [1, 2] rfl rfl (by decide) (by decide) hk1 hFc hP1 hD1
                          replace hK := (hK.sub (tys' := [(k_sa, .byte), (k_ru, .int)]) [0, 1] rfl).app hK1
                          generalize H1 = H at hP hS ⊢
                          replace hP := hP.sub (ws' := [(a_m, .inr (5, [.int v_th, .ref a_sa, .int v_sz, .int x_260.2.1, .int x_260.2.1, .ref a_ru, .ref a_me, .ref a_le, .int v_n, .ref a_cl, .ref a_te, .ref a_ki, .ref a_ty, .ref a_bl, .ref a_ex, .ref a_lo, .int v_nl, .ref a_ho, .ref a_fi, .int v_nf, .ref a_cz, .int v_nc])), (a_sa, .inl (k_sa, 120, .inl f_sa)), (a_ru, .inl (k_ru, 410, .inl R))]) [2, 0, 1] rfl
                          replace hD := hD.sub (ws' := [(a_m, .inr (5, [.int v_th, .ref a_sa, .int v_sz, .int x_260.2.1, .int x_260.2.1, .ref a_ru, .ref a_me, .ref a_le, .int v_n, .ref a_cl, .ref a_te, .ref a_ki, .ref a_ty, .ref a_bl, .ref a_ex, .ref a_lo, .int v_nl, .ref a_ho, .ref a_fi, .int v_nf, .ref a_cz, .int v_nc])), (a_sa, .inl (k_sa, 120, .inl f_sa)), (a_ru, .inl (k_ru, 410, .inl R))]) [2, 0, 1] (by decide) rfl
                          replace hK := hK.sub (tys' := [(k_sa, .byte), (k_ru, .int)]) [0, 1] rfl
                          have hP9 := hP.sub (ws' := [(a_m, .inr (5, [.int v_th, .ref a_sa, .int v_sz, .int x_260.2.1, .int x_260.2.1, .ref a_ru, .ref a_me, .ref a_le, .int v_n, .ref a_cl, .ref a_te, .ref a_ki, .ref a_ty, .ref a_bl, .ref a_ex, .ref a_lo, .int v_nl, .ref a_ho, .ref a_fi, .int v_nf, .ref a_cz, .int v_nc])), (a_sa, .inl (k_sa, 120, .inl f_sa)), (a_ru, .inl (k_ru, 410, .inl R))]) [0, 1, 2] rfl
                          have hD9 := hD.sub (ws' := [(a_m, .inr (5, [.int v_th, .ref a_sa, .int v_sz, .int x_260.2.1, .int x_260.2.1, .ref a_ru, .ref a_me, .ref a_le, .int v_n, .ref a_cl, .ref a_te, .ref a_ki, .ref a_ty, .ref a_bl, .ref a_ex, .ref a_lo, .int v_nl, .ref a_ho, .ref a_fi, .int v_nf, .ref a_cz, .int v_nc])), (a_sa, .inl (k_sa, 120, .inl f_sa)), (a_ru, .inl (k_ru, 410, .inl R))]) [0, 1, 2] (by decide) rfl
                          have hK9 := hK.sub (tys' := [(k_sa, .byte), (k_ru, .int)]) [0, 1] rfl
                          exact W.zret (v := 0) hx hb hr rfl (fun t ht hW => ⟨⟨0, (), rfl, by rw [← hz, hE], by rw [ht, ← hz, hE]; exact hP9, va_K.moved hW.alike hK9, by rw [← hz, hE]; exact hD9⟩, hS.F ht⟩) hS.2.2 d_M_reads_160
                        · refine lv_iload_n hx hb d_M_reads_148 rfl (lv_at hl 0 rfl) ?_
                          refine lv_if_ne (tgt := 161) hx hb d_M_reads_149 (by decide) (fun c_279 => ?_) (fun c_279 => ?_)
                          · exact absurd (by decide) c_279
                          · subst hg_rd1
                            dsimp only at hE
                            rw [if_neg (by decide)] at hE
                            rw [if_neg (by decide)] at hE
                            rw [if_pos rfl] at hE
                            refine lv_aload_n hx hb d_M_reads_152 rfl (lv_at hl 3 rfl) ?_
                            refine lv_aload_n hx hb d_M_reads_153 rfl (lv_at hl 3 rfl) ?_
                            refine va_get (D := (dC, dI)) (ci := 5) (v := .int x_260.2.1) (C := "LoanRulesModel") (T := Fz_M) (N := 22) hx hb hts it_M hown hK hP 0 rfl rfl 3 (by decide) (hts _ tw_604) (fun _ h9 => h9) rfl d_M_reads_154 ?_
                            have hPc := hP.sub (ws' := [(a_m, .inr (5, [.int v_th, .ref a_sa, .int v_sz, .int x_260.2.1, .int x_260.2.2, .ref a_ru, .ref a_me, .ref a_le, .int v_n, .ref a_cl, .ref a_te, .ref a_ki, .ref a_ty, .ref a_bl, .ref a_ex, .ref a_lo, .int v_nl, .ref a_ho, .ref a_fi, .int v_nf, .ref a_cz, .int v_nc]))]) [0] rfl
                            have hKc := hK.sub (tys' := []) [] rfl
                            have hDc := hD.sub (ws' := [(a_m, .inr (5, [.int v_th, .ref a_sa, .int v_sz, .int x_260.2.1, .int x_260.2.2, .ref a_ru, .ref a_me, .ref a_le, .int v_n, .ref a_cl, .ref a_te, .ref a_ki, .ref a_ty, .ref a_bl, .ref a_ex, .ref a_lo, .int v_nl, .ref a_ho, .ref a_fi, .int v_nf, .ref a_cz, .int v_nc]))]) [0] (by decide) rfl
                            have hFc := va_free (wc := [(a_m, .inr (5, [.int v_th, .ref a_sa, .int v_sz, .int x_260.2.1, .int x_260.2.2, .ref a_ru, .ref a_me, .ref a_le, .int v_n, .ref a_cl, .ref a_te, .ref a_ki, .ref a_ty, .ref a_bl, .ref a_ex, .ref a_lo, .int v_nl, .ref a_ho, .ref a_fi, .int v_nf, .ref a_cz, .int v_nc]))]) hD hS hA [0] rfl
                            refine va_calli (va_runV (As := [.int x_260.2.1]) (rest := []) ⟨hx, hb, hml, hown, hts⟩ (c_Mg_bad l dC dI adK adV (a_m := a_m) (p0 := x_260.2.1) (v_th := v_th) (a_sa := a_sa) (v_sz := v_sz) (v_at := x_260.2.1) (v_wr := x_260.2.2) (a_ru := a_ru) (a_me := a_me) (a_le := a_le) (v_n := v_n) (a_cl := a_cl) (a_te := a_te) (a_ki := a_ki) (a_ty := a_ty) (a_bl := a_bl) (a_ex := a_ex) (a_lo := a_lo) (v_nl := v_nl) (a_ho := a_ho) (a_fi := a_fi) (v_nf := v_nf) (a_cz := a_cz) (v_nc := v_nc) (sz := H.size)) (cwV 1 hts (gV tw_688 tw_690 tw_28 tw_46 tw_691) rfl rfl rfl (by decide +kernel) ⟨(Nat.le_of_ble_eq_true rfl), (Nat.le_of_ble_eq_true rfl)⟩) ⟨fun a U g mk q => by obtain ⟨q0, q1, qZ, qP, qK, qD⟩ := q; exact ⟨q0, q1, zz_call qZ, qP, va_K.moved (u := U) (U := U.calling g mk a) (Vm.Alike.refl U.vm) qK, qD⟩, va_recv hKc hPc (ci := 5) (q0 := 0) rfl rfl, fun U hU hW => ⟨rfl, by rw [hU], zz_rw hS hFc hU hW hZ, by rw [hU]; exact hPc, va_K.moved hW.alike hKc, hDc.weaken (fun _ _ _ _ => trivial)⟩⟩ rfl rfl hl.1 rfl (lv_room (Nat.le_of_ble_eq_true rfl)) d_M_reads_157 ⟨(Nat.le_of_ble_eq_true rfl), (Nat.le_of_ble_eq_true rfl)⟩) hS (fun q _ h => hFc q h) hFc (fun r_280 u t H1 locs ht hvm hw_281 hB hz1 hk1 hS => ?_)
                            obtain ⟨hP1, hK1, hD1⟩ := hB
                            rw [ht] at hP1
                            have hK1 := va_K.moved hvm.symm hK1
                            obtain rfl : r_280 = 0 := hw_281
                            obtain ⟨hP, hD⟩ := va_join (wr := [(a_sa, .inl (k_sa, 120, .inl f_sa)), (a_ru, .inl (k_ru, 410, .inl R))]) (w1 := [(a_m, .inr (5, [.int v_th, .ref a_sa, .int v_sz, .int x_260.2.1, .int x_260.2.1, .ref a_ru, .ref a_me, .ref a_le, .int v_n, .ref a_cl, .ref a_te, .ref a_ki, .ref a_ty, .ref a_bl, .ref a_ex, .ref a_lo, .int v_nl, .ref a_ho, .ref a_fi, .int v_nf, .ref a_cz, .int v_nc]))]) hP hD [0] [1, 2] rfl rfl (by decide) (by decide) hk1 hFc hP1 hD1
                            replace hK := (hK.sub (tys' := [(k_sa, .byte), (k_ru, .int)]) [0, 1] rfl).app hK1
                            generalize H1 = H at hP hS ⊢
                            replace hP := hP.sub (ws' := [(a_m, .inr (5, [.int v_th, .ref a_sa, .int v_sz, .int x_260.2.1, .int x_260.2.1, .ref a_ru, .ref a_me, .ref a_le, .int v_n, .ref a_cl, .ref a_te, .ref a_ki, .ref a_ty, .ref a_bl, .ref a_ex, .ref a_lo, .int v_nl, .ref a_ho, .ref a_fi, .int v_nf, .ref a_cz, .int v_nc])), (a_sa, .inl (k_sa, 120, .inl f_sa)), (a_ru, .inl (k_ru, 410, .inl R))]) [2, 0, 1] rfl
                            replace hD := hD.sub (ws' := [(a_m, .inr (5, [.int v_th, .ref a_sa, .int v_sz, .int x_260.2.1, .int x_260.2.1, .ref a_ru, .ref a_me, .ref a_le, .int v_n, .ref a_cl, .ref a_te, .ref a_ki, .ref a_ty, .ref a_bl, .ref a_ex, .ref a_lo, .int v_nl, .ref a_ho, .ref a_fi, .int v_nf, .ref a_cz, .int v_nc])), (a_sa, .inl (k_sa, 120, .inl f_sa)), (a_ru, .inl (k_ru, 410, .inl R))]) [2, 0, 1] (by decide) rfl
                            replace hK := hK.sub (tys' := [(k_sa, .byte), (k_ru, .int)]) [0, 1] rfl
                            have hP9 := hP.sub (ws' := [(a_m, .inr (5, [.int v_th, .ref a_sa, .int v_sz, .int x_260.2.1, .int x_260.2.1, .ref a_ru, .ref a_me, .ref a_le, .int v_n, .ref a_cl, .ref a_te, .ref a_ki, .ref a_ty, .ref a_bl, .ref a_ex, .ref a_lo, .int v_nl, .ref a_ho, .ref a_fi, .int v_nf, .ref a_cz, .int v_nc])), (a_sa, .inl (k_sa, 120, .inl f_sa)), (a_ru, .inl (k_ru, 410, .inl R))]) [0, 1, 2] rfl
                            have hD9 := hD.sub (ws' := [(a_m, .inr (5, [.int v_th, .ref a_sa, .int v_sz, .int x_260.2.1, .int x_260.2.1, .ref a_ru, .ref a_me, .ref a_le, .int v_n, .ref a_cl, .ref a_te, .ref a_ki, .ref a_ty, .ref a_bl, .ref a_ex, .ref a_lo, .int v_nl, .ref a_ho, .ref a_fi, .int v_nf, .ref a_cz, .int v_nc])), (a_sa, .inl (k_sa, 120, .inl f_sa)), (a_ru, .inl (k_ru, 410, .inl R))]) [0, 1, 2] (by decide) rfl
                            have hK9 := hK.sub (tys' := [(k_sa, .byte), (k_ru, .int)]) [0, 1] rfl
                            exact W.zret (v := 0) hx hb hr rfl (fun t ht hW => ⟨⟨0, (), rfl, by rw [← hz, hE], by rw [ht, ← hz, hE]; exact hP9, va_K.moved hW.alike hK9, by rw [← hz, hE]; exact hD9⟩, hS.F ht⟩) hS.2.2 d_M_reads_160
                      · rw [if_pos c_275] at hg_rd1
                        refine lv_goto (tgt := 138) hx hb d_M_reads_129 (by decide) ?_
                        refine lv_iconst (v := 1) hx hb d_M_reads_138 (by decide) ?_
                        refine lv_goto (tgt := 143) hx hb d_M_reads_139 (by decide) ?_
                        refine lv_istore_n (lv' := [(3, .int 1), (2, .int (g_Mg_step (g_Mg_word v_sz x_260.2.1 f_sa))), (1, .int la), (0, .ref a_m)]) hx hb d_M_reads_143 rfl hl (by decide) rfl (fun ls hl => ?_)
                        refine lv_iload_n hx hb d_M_reads_144 rfl (lv_at hl 1 rfl) ?_
                        refine lv_if_eq (tgt := 152) hx hb d_M_reads_145 (by decide) (fun c_282 => ?_) (fun c_282 => ?_)
                        · rw [if_pos c_282] at hg_rd1
                          subst hg_rd1
                          dsimp only at hE
                          rw [if_neg (by decide)] at hE
                          rw [if_neg (by decide)] at hE
                          rw [if_pos rfl] at hE
                          refine lv_aload_n hx hb d_M_reads_152 rfl (lv_at hl 3 rfl) ?_
                          refine lv_aload_n hx hb d_M_reads_153 rfl (lv_at hl 3 rfl) ?_
                          refine va_get (D := (dC, dI)) (ci := 5) (v := .int x_260.2.1) (C := "LoanRulesModel") (T := Fz_M) (N := 22) hx hb hts it_M hown hK hP 0 rfl rfl 3 (by decide) (hts _ tw_604) (fun _ h9 => h9) rfl d_M_reads_154 ?_
                          have hPc := hP.sub (ws' := [(a_m, .inr (5, [.int v_th, .ref a_sa, .int v_sz, .int x_260.2.1, .int x_260.2.2, .ref a_ru, .ref a_me, .ref a_le, .int v_n, .ref a_cl, .ref a_te, .ref a_ki, .ref a_ty, .ref a_bl, .ref a_ex, .ref a_lo, .int v_nl, .ref a_ho, .ref a_fi, .int v_nf, .ref a_cz, .int v_nc]))]) [0] rfl
                          have hKc := hK.sub (tys' := []) [] rfl
                          have hDc := hD.sub (ws' := [(a_m, .inr (5, [.int v_th, .ref a_sa, .int v_sz, .int x_260.2.1, .int x_260.2.2, .ref a_ru, .ref a_me, .ref a_le, .int v_n, .ref a_cl, .ref a_te, .ref a_ki, .ref a_ty, .ref a_bl, .ref a_ex, .ref a_lo, .int v_nl, .ref a_ho, .ref a_fi, .int v_nf, .ref a_cz, .int v_nc]))]) [0] (by decide) rfl
                          have hFc := va_free (wc := [(a_m, .inr (5, [.int v_th, .ref a_sa, .int v_sz, .int x_260.2.1, .int x_260.2.2, .ref a_ru, .ref a_me, .ref a_le, .int v_n, .ref a_cl, .ref a_te, .ref a_ki, .ref a_ty, .ref a_bl, .ref a_ex, .ref a_lo, .int v_nl, .ref a_ho, .ref a_fi, .int v_nf, .ref a_cz, .int v_nc]))]) hD hS hA [0] rfl
                          refine va_calli (va_runV (As := [.int x_260.2.1]) (rest := []) ⟨hx, hb, hml, hown, hts⟩ (c_Mg_bad l dC dI adK adV (a_m := a_m) (p0 := x_260.2.1) (v_th := v_th) (a_sa := a_sa) (v_sz := v_sz) (v_at := x_260.2.1) (v_wr := x_260.2.2) (a_ru := a_ru) (a_me := a_me) (a_le := a_le) (v_n := v_n) (a_cl := a_cl) (a_te := a_te) (a_ki := a_ki) (a_ty := a_ty) (a_bl := a_bl) (a_ex := a_ex) (a_lo := a_lo) (v_nl := v_nl) (a_ho := a_ho) (a_fi := a_fi) (v_nf := v_nf) (a_cz := a_cz) (v_nc := v_nc) (sz := H.size)) (cwV 1 hts (gV tw_688 tw_690 tw_28 tw_46 tw_691) rfl rfl rfl (by decide +kernel) ⟨(Nat.le_of_ble_eq_true rfl), (Nat.le_of_ble_eq_true rfl)⟩) ⟨fun a U g mk q => by obtain ⟨q0, q1, qZ, qP, qK, qD⟩ := q; exact ⟨q0, q1, zz_call qZ, qP, va_K.moved (u := U) (U := U.calling g mk a) (Vm.Alike.refl U.vm) qK, qD⟩, va_recv hKc hPc (ci := 5) (q0 := 0) rfl rfl, fun U hU hW => ⟨rfl, by rw [hU], zz_rw hS hFc hU hW hZ, by rw [hU]; exact hPc, va_K.moved hW.alike hKc, hDc.weaken (fun _ _ _ _ => trivial)⟩⟩ rfl rfl hl.1 rfl (lv_room (Nat.le_of_ble_eq_true rfl)) d_M_reads_157 ⟨(Nat.le_of_ble_eq_true rfl), (Nat.le_of_ble_eq_true rfl)⟩) hS (fun q _ h => hFc q h) hFc (fun r_283 u t H1 locs ht hvm hw_284 hB hz1 hk1 hS => ?_)
                          obtain ⟨hP1, hK1, hD1⟩ := hB
                          rw [ht] at hP1
                          have hK1 := va_K.moved hvm.symm hK1
                          obtain rfl : r_283 = 0 := hw_284
                          obtain ⟨hP, hD⟩ := va_join (wr := [(a_sa, .inl (k_sa, 120, .inl f_sa)), (a_ru, .inl (k_ru, 410, .inl R))]) (w1 := [(a_m, .inr (5, [.int v_th, .ref a_sa, .int v_sz, .int x_260.2.1, .int x_260.2.1, .ref a_ru, .ref a_me, .ref a_le, .int v_n, .ref a_cl, .ref a_te, .ref a_ki, .ref a_ty, .ref a_bl, .ref a_ex, .ref a_lo, .int v_nl, .ref a_ho, .ref a_fi, .int v_nf, .ref a_cz, .int v_nc]))]) hP hD [0] [1, 2] rfl rfl (by decide) (by decide) hk1 hFc hP1 hD1
                          replace hK := (hK.sub (tys' := [(k_sa, .byte), (k_ru, .int)]) [0, 1] rfl).app hK1
                          generalize H1 = H at hP hS ⊢
                          replace hP := hP.sub (ws' := [(a_m, .inr (5, [.int v_th, .ref a_sa, .int v_sz, .int x_260.2.1, .int x_260.2.1, .ref a_ru, .ref a_me, .ref a_le, .int v_n, .ref a_cl, .ref a_te, .ref a_ki, .ref a_ty, .ref a_bl, .ref a_ex, .ref a_lo, .int v_nl, .ref a_ho, .ref a_fi, .int v_nf, .ref a_cz, .int v_nc])), (a_sa, .inl (k_sa, 120, .inl f_sa)), (a_ru, .inl (k_ru, 410, .inl R))]) [2, 0, 1] rfl
                          replace hD := hD.sub (ws' := [(a_m, .inr (5, [.int v_th, .ref a_sa, .int v_sz, .int x_260.2.1, .int x_260.2.1, .ref a_ru, .ref a_me, .ref a_le, .int v_n, .ref a_cl, .ref a_te, .ref a_ki, .ref a_ty, .ref a_bl, .ref a_ex, .ref a_lo, .int v_nl, .ref a_ho, .ref a_fi, .int v_nf, .ref a_cz, .int v_nc])), (a_sa, .inl (k_sa, 120, .inl f_sa)), (a_ru, .inl (k_ru, 410, .inl R))]) [2, 0, 1] (by decide) rfl
                          replace hK := hK.sub (tys' := [(k_sa, .byte), (k_ru, .int)]) [0, 1] rfl
                          have hP9 := hP.sub (ws' := [(a_m, .inr (5, [.int v_th, .ref a_sa, .int v_sz, .int x_260.2.1, .int x_260.2.1, .ref a_ru, .ref a_me, .ref a_le, .int v_n, .ref a_cl, .ref a_te, .ref a_ki, .ref a_ty, .ref a_bl, .ref a_ex, .ref a_lo, .int v_nl, .ref a_ho, .ref a_fi, .int v_nf, .ref a_cz, .int v_nc])), (a_sa, .inl (k_sa, 120, .inl f_sa)), (a_ru, .inl (k_ru, 410, .inl R))]) [0, 1, 2] rfl
                          have hD9 := hD.sub (ws' := [(a_m, .inr (5, [.int v_th, .ref a_sa, .int v_sz, .int x_260.2.1, .int x_260.2.1, .ref a_ru, .ref a_me, .ref a_le, .int v_n, .ref a_cl, .ref a_te, .ref a_ki, .ref a_ty, .ref a_bl, .ref a_ex, .ref a_lo, .int v_nl, .ref a_ho, .ref a_fi, .int v_nf, .ref a_cz, .int v_nc])), (a_sa, .inl (k_sa, 120, .inl f_sa)), (a_ru, .inl (k_ru, 410, .inl R))]) [0, 1, 2] (by decide) rfl
                          have hK9 := hK.sub (tys' := [(k_sa, .byte), (k_ru, .int)]) [0, 1] rfl
                          exact W.zret (v := 0) hx hb hr rfl (fun t ht hW => ⟨⟨0, (), rfl, by rw [← hz, hE], by rw [ht, ← hz, hE]; exact hP9, va_K.moved hW.alike hK9, by rw [← hz, hE]; exact hD9⟩, hS.F ht⟩) hS.2.2 d_M_reads_160
                        · rw [if_neg c_282] at hg_rd1
                          refine lv_iload_n hx hb d_M_reads_148 rfl (lv_at hl 0 rfl) ?_
                          refine lv_if_ne (tgt := 161) hx hb d_M_reads_149 (by decide) (fun c_285 => ?_) (fun c_285 => ?_)
                          · refine lv_aload_n hx hb d_M_reads_161 rfl (lv_at hl 3 rfl) ?_
                            have hPc := hP.sub (ws' := [(a_m, .inr (5, [.int v_th, .ref a_sa, .int v_sz, .int x_260.2.1, .int x_260.2.2, .ref a_ru, .ref a_me, .ref a_le, .int v_n, .ref a_cl, .ref a_te, .ref a_ki, .ref a_ty, .ref a_bl, .ref a_ex, .ref a_lo, .int v_nl, .ref a_ho, .ref a_fi, .int v_nf, .ref a_cz, .int v_nc])), (a_sa, .inl (k_sa, 120, .inl f_sa))]) [0, 1] rfl
                            have hKc := hK.sub (tys' := [(k_sa, .byte)]) [0] rfl
                            have hDc := hD.sub (ws' := [(a_m, .inr (5, [.int v_th, .ref a_sa, .int v_sz, .int x_260.2.1, .int x_260.2.2, .ref a_ru, .ref a_me, .ref a_le, .int v_n, .ref a_cl, .ref a_te, .ref a_ki, .ref a_ty, .ref a_bl, .ref a_ex, .ref a_lo, .int v_nl, .ref a_ho, .ref a_fi, .int v_nf, .ref a_cz, .int v_nc])), (a_sa, .inl (k_sa, 120, .inl f_sa))]) [0, 1] (by decide) rfl
                            have hFc := va_free (wc := [(a_m, .inr (5, [.int v_th, .ref a_sa, .int v_sz, .int x_260.2.1, .int x_260.2.2, .ref a_ru, .ref a_me, .ref a_le, .int v_n, .ref a_cl, .ref a_te, .ref a_ki, .ref a_ty, .ref a_bl, .ref a_ex, .ref a_lo, .int v_nl, .ref a_ho, .ref a_fi, .int v_nf, .ref a_cz, .int v_nc])), (a_sa, .inl (k_sa, 120, .inl f_sa))]) hD hS hA [0, 1] rfl
                            refine va_callv (va_runV (As := []) (rest := []) ⟨hx, hb, hml, hown, hts⟩ (c_Mg_pass l dC dI adK adV (a_m := a_m) (v_th := v_th) (a_sa := a_sa) (v_sz := v_sz) (v_at := x_260.2.1) (v_wr := x_260.2.2) (a_ru := a_ru) (a_me := a_me) (a_le := a_le) (v_n := v_n) (a_cl := a_cl) (a_te := a_te) (a_ki := a_ki) (a_ty := a_ty) (a_bl := a_bl) (a_ex := a_ex) (a_lo := a_lo) (v_nl := v_nl) (a_ho := a_ho) (a_fi := a_fi) (v_nf := v_nf) (a_cz := a_cz) (v_nc := v_nc) (k_sa := k_sa) (f_sa := f_sa) (sz := H.size) hsz (hg_x_260 ▸ space_at hsz ha)) (cwV 0 hts (gV tw_712 tw_714 tw_30 tw_46 tw_715) rfl rfl rfl (by decide +kernel) ⟨(Nat.le_of_ble_eq_true rfl), (Nat.le_of_ble_eq_true rfl)⟩) ⟨fun a U g mk q => by obtain ⟨q0, q1, qZ, qP, qK, qD⟩ := q; exact ⟨q0, q1, zz_call qZ, qP, va_K.moved (u := U) (U := U.calling g mk a) (Vm.Alike.refl U.vm) qK, qD⟩, va_recv hKc hPc (ci := 5) (q0 := 0) rfl rfl, fun U hU hW => ⟨rfl, by rw [hU], zz_rw hS hFc hU hW hZ, by rw [hU]; exact hPc, va_K.moved hW.alike hKc, hDc.weaken (fun _ _ _ _ => trivial)⟩⟩ rfl rfl hl.1 rfl (lv_room (Nat.le_of_ble_eq_true rfl)) d_M_reads_162 ⟨(Nat.le_of_ble_eq_true rfl), (Nat.le_of_ble_eq_true rfl)⟩) hS (fun q _ h => hFc q h) hFc (fun u t H1 locs ht hvm hw_286 hB hz1 hk1 hS => ?_)
                            generalize hg_x_287 : g_Mg_pass v_sz x_260.2.1 f_sa = x_287 at hw_286 hB hg_rd1
                            rw [bv_eq] at hg_rd1
                            obtain ⟨hP1, hK1, hD1⟩ := hB
                            rw [ht] at hP1
                            have hK1 := va_K.moved hvm.symm hK1
                            obtain ⟨hP, hD⟩ := va_join (wr := [(a_ru, .inl (k_ru, 410, .inl R))]) (w1 := [(a_m, .inr (5, [.int v_th, .ref a_sa, .int v_sz, .int x_287, .int x_260.2.2, .ref a_ru, .ref a_me, .ref a_le, .int v_n, .ref a_cl, .ref a_te, .ref a_ki, .ref a_ty, .ref a_bl, .ref a_ex, .ref a_lo, .int v_nl, .ref a_ho, .ref a_fi, .int v_nf, .ref a_cz, .int v_nc])), (a_sa, .inl (k_sa, 120, .inl f_sa))]) hP hD [0, 1] [2] rfl rfl (by decide) (by decide) hk1 hFc hP1 hD1
                            replace hK := (hK.sub (tys' := [(k_ru, .int)]) [1] rfl).app hK1
                            generalize H1 = H at hP hS ⊢
                            replace hP := hP.sub (ws' := [(a_m, .inr (5, [.int v_th, .ref a_sa, .int v_sz, .int x_287, .int x_260.2.2, .ref a_ru, .ref a_me, .ref a_le, .int v_n, .ref a_cl, .ref a_te, .ref a_ki, .ref a_ty, .ref a_bl, .ref a_ex, .ref a_lo, .int v_nl, .ref a_ho, .ref a_fi, .int v_nf, .ref a_cz, .int v_nc])), (a_sa, .inl (k_sa, 120, .inl f_sa)), (a_ru, .inl (k_ru, 410, .inl R))]) [1, 2, 0] rfl
                            replace hD := hD.sub (ws' := [(a_m, .inr (5, [.int v_th, .ref a_sa, .int v_sz, .int x_287, .int x_260.2.2, .ref a_ru, .ref a_me, .ref a_le, .int v_n, .ref a_cl, .ref a_te, .ref a_ki, .ref a_ty, .ref a_bl, .ref a_ex, .ref a_lo, .int v_nl, .ref a_ho, .ref a_fi, .int v_nf, .ref a_cz, .int v_nc])), (a_sa, .inl (k_sa, 120, .inl f_sa)), (a_ru, .inl (k_ru, 410, .inl R))]) [1, 2, 0] (by decide) rfl
                            replace hK := hK.sub (tys' := [(k_sa, .byte), (k_ru, .int)]) [1, 0] rfl
                            refine lv_aload_n hx hb d_M_reads_165 rfl (lv_at hl 3 rfl) ?_
                            refine lv_iload_n hx hb d_M_reads_166 rfl (lv_at hl 1 rfl) ?_
                            have hPc := hP.sub (ws' := [(a_m, .inr (5, [.int v_th, .ref a_sa, .int v_sz, .int x_287, .int x_260.2.2, .ref a_ru, .ref a_me, .ref a_le, .int v_n, .ref a_cl, .ref a_te, .ref a_ki, .ref a_ty, .ref a_bl, .ref a_ex, .ref a_lo, .int v_nl, .ref a_ho, .ref a_fi, .int v_nf, .ref a_cz, .int v_nc])), (a_sa, .inl (k_sa, 120, .inl f_sa)), (a_ru, .inl (k_ru, 410, .inl R))]) [0, 1, 2] rfl
                            have hKc := hK.sub (tys' := [(k_sa, .byte), (k_ru, .int)]) [0, 1] rfl
                            have hDc := hD.sub (ws' := [(a_m, .inr (5, [.int v_th, .ref a_sa, .int v_sz, .int x_287, .int x_260.2.2, .ref a_ru, .ref a_me, .ref a_le, .int v_n, .ref a_cl, .ref a_te, .ref a_ki, .ref a_ty, .ref a_bl, .ref a_ex, .ref a_lo, .int v_nl, .ref a_ho, .ref a_fi, .int v_nf, .ref a_cz, .int v_nc])), (a_sa, .inl (k_sa, 120, .inl f_sa)), (a_ru, .inl (k_ru, 410, .inl R))]) [0, 1, 2] (by decide) rfl
                            have hFc := va_free (wc := [(a_m, .inr (5, [.int v_th, .ref a_sa, .int v_sz, .int x_287, .int x_260.2.2, .ref a_ru, .ref a_me, .ref a_le, .int v_n, .ref a_cl, .ref a_te, .ref a_ki, .ref a_ty, .ref a_bl, .ref a_ex, .ref a_lo, .int v_nl, .ref a_ho, .ref a_fi, .int v_nf, .ref a_cz, .int v_nc])), (a_sa, .inl (k_sa, 120, .inl f_sa)), (a_ru, .inl (k_ru, 410, .inl R))]) hD hS hA [0, 1, 2] rfl
                            refine va_calli (va_runV (As := [.int (g_Mg_step (g_Mg_word v_sz x_260.2.1 f_sa))]) (rest := []) ⟨hx, hb, hml, hown, hts⟩ (c_Mg_one l dC dI adK adV (a_m := a_m) (p0 := g_Mg_step (g_Mg_word v_sz x_260.2.1 f_sa)) (v_th := v_th) (a_sa := a_sa) (v_sz := v_sz) (v_at := x_287) (v_wr := x_260.2.2) (a_ru := a_ru) (a_me := a_me) (a_le := a_le) (v_n := v_n) (a_cl := a_cl) (a_te := a_te) (a_ki := a_ki) (a_ty := a_ty) (a_bl := a_bl) (a_ex := a_ex) (a_lo := a_lo) (v_nl := v_nl) (a_ho := a_ho) (a_fi := a_fi) (v_nf := v_nf) (a_cz := a_cz) (v_nc := v_nc) (k_sa := k_sa) (f_sa := f_sa) (k_ru := k_ru) (f_ru := R) (sz := H.size) hsz (hg_x_287 ▸ pass_at hsz (hg_x_260 ▸ space_at hsz ha)) hn) (cwV 1 hts (gV tw_716 tw_718 tw_31 tw_46 tw_719) rfl rfl rfl (by decide +kernel) ⟨(Nat.le_of_ble_eq_true rfl), (Nat.le_of_ble_eq_true rfl)⟩) ⟨fun a U g mk q => by obtain ⟨q0, q1, qZ, qP, qK, qD⟩ := q; exact ⟨q0, q1, zz_call qZ, qP, va_K.moved (u := U) (U := U.calling g mk a) (Vm.Alike.refl U.vm) qK, qD⟩, va_recv hKc hPc (ci := 5) (q0 := 0) rfl rfl, fun U hU hW => ⟨rfl, by rw [hU], zz_rw hS hFc hU hW hZ, by rw [hU]; exact hPc, va_K.moved hW.alike hKc, hDc.weaken (fun _ _ _ _ => trivial)⟩⟩ rfl rfl hl.1 rfl (lv_room (Nat.le_of_ble_eq_true rfl)) d_M_reads_167 ⟨(Nat.le_of_ble_eq_true rfl), (Nat.le_of_ble_eq_true rfl)⟩) hS (fun q _ h => hFc q h) hFc (fun r_288 u t H1 locs ht hvm hw_289 hB hz1 hk1 hS => ?_)
                            generalize hg_x_290 : g_Mg_one (g_Mg_step (g_Mg_word v_sz x_260.2.1 f_sa)) v_sz x_287 x_260.2.2 v_n f_sa R = x_290 at hw_289 hB hg_rd1
                            rw [bv_eq] at hg_rd1
                            obtain ⟨hP1, hK1, hD1⟩ := hB
                            rw [ht] at hP1
                            have hK1 := va_K.moved hvm.symm hK1
                            obtain rfl : r_288 = x_290.1 := hw_289
                            obtain ⟨hP, hD⟩ := va_join (wr := []) (w1 := [(a_m, .inr (5, [.int v_th, .ref a_sa, .int v_sz, .int x_290.2.1, .int x_290.2.2.1, .ref a_ru, .ref a_me, .ref a_le, .int v_n, .ref a_cl, .ref a_te, .ref a_ki, .ref a_ty, .ref a_bl, .ref a_ex, .ref a_lo, .int v_nl, .ref a_ho, .ref a_fi, .int v_nf, .ref a_cz, .int v_nc])), (a_sa, .inl (k_sa, 120, .inl f_sa)), (a_ru, .inl (k_ru, 410, .inl x_290.2.2.2))]) hP hD [0, 1, 2] [] rfl rfl (by decide) (by decide) hk1 hFc hP1 hD1
                            replace hK := (hK.sub (tys' := []) [] rfl).app hK1
                            generalize H1 = H at hP hS ⊢
                            replace hP := hP.sub (ws' := [(a_m, .inr (5, [.int v_th, .ref a_sa, .int v_sz, .int x_290.2.1, .int x_290.2.2.1, .ref a_ru, .ref a_me, .ref a_le, .int v_n, .ref a_cl, .ref a_te, .ref a_ki, .ref a_ty, .ref a_bl, .ref a_ex, .ref a_lo, .int v_nl, .ref a_ho, .ref a_fi, .int v_nf, .ref a_cz, .int v_nc])), (a_sa, .inl (k_sa, 120, .inl f_sa)), (a_ru, .inl (k_ru, 410, .inl x_290.2.2.2))]) [0, 1, 2] rfl
                            replace hD := hD.sub (ws' := [(a_m, .inr (5, [.int v_th, .ref a_sa, .int v_sz, .int x_290.2.1, .int x_290.2.2.1, .ref a_ru, .ref a_me, .ref a_le, .int v_n, .ref a_cl, .ref a_te, .ref a_ki, .ref a_ty, .ref a_bl, .ref a_ex, .ref a_lo, .int v_nl, .ref a_ho, .ref a_fi, .int v_nf, .ref a_cz, .int v_nc])), (a_sa, .inl (k_sa, 120, .inl f_sa)), (a_ru, .inl (k_ru, 410, .inl x_290.2.2.2))]) [0, 1, 2] (by decide) rfl
                            replace hK := hK.sub (tys' := [(k_sa, .byte), (k_ru, .int)]) [0, 1] rfl
                            refine lv_if_ne (tgt := 175) hx hb d_M_reads_170 (by decide) (fun c_291 => ?_) (fun c_291 => ?_)
                            · rw [if_neg c_291] at hg_rd1
                              refine lv_iload_n hx hb d_M_reads_175 rfl (lv_at hl 1 rfl) ?_
                              refine lv_istore_n (lv' := [(1, .int (g_Mg_step (g_Mg_word v_sz x_260.2.1 f_sa))), (3, .int 1), (2, .int (g_Mg_step (g_Mg_word v_sz x_260.2.1 f_sa))), (0, .ref a_m)]) hx hb d_M_reads_176 rfl hl (by decide) rfl (fun ls hl => ?_)
                              refine lv_goto (tgt := 56) hx hb d_M_reads_177 (by decide) ?_
                              exact ih_rd1 _ _ _ _ _ _ _ ⟨hP, hD, hS, lv_sub hl [0, 3] rfl, ((hg_x_290 ▸ one_at hsz (hg_x_287 ▸ pass_at hsz (hg_x_260 ▸ space_at hsz ha)))), (step_le _), (li_mt hla c_266 (step_le _) hm_rd1), hg_rd1⟩
                            · rw [if_pos c_291] at hg_rd1
                              subst hg_rd1
                              dsimp only at hE
                              rw [if_neg (by decide)] at hE
                              rw [if_neg (by decide)] at hE
                              rw [if_neg (by decide)] at hE
                              refine lv_iconst (v := 0) hx hb d_M_reads_173 (by decide) ?_
                              have hP9 := hP.sub (ws' := [(a_m, .inr (5, [.int v_th, .ref a_sa, .int v_sz, .int x_290.2.1, .int x_290.2.2.1, .ref a_ru, .ref a_me, .ref a_le, .int v_n, .ref a_cl, .ref a_te, .ref a_ki, .ref a_ty, .ref a_bl, .ref a_ex, .ref a_lo, .int v_nl, .ref a_ho, .ref a_fi, .int v_nf, .ref a_cz, .int v_nc])), (a_sa, .inl (k_sa, 120, .inl f_sa)), (a_ru, .inl (k_ru, 410, .inl x_290.2.2.2))]) [0, 1, 2] rfl
                              have hD9 := hD.sub (ws' := [(a_m, .inr (5, [.int v_th, .ref a_sa, .int v_sz, .int x_290.2.1, .int x_290.2.2.1, .ref a_ru, .ref a_me, .ref a_le, .int v_n, .ref a_cl, .ref a_te, .ref a_ki, .ref a_ty, .ref a_bl, .ref a_ex, .ref a_lo, .int v_nl, .ref a_ho, .ref a_fi, .int v_nf, .ref a_cz, .int v_nc])), (a_sa, .inl (k_sa, 120, .inl f_sa)), (a_ru, .inl (k_ru, 410, .inl x_290.2.2.2))]) [0, 1, 2] (by decide) rfl
                              have hK9 := hK.sub (tys' := [(k_sa, .byte), (k_ru, .int)]) [0, 1] rfl
                              exact W.zret (v := 0) hx hb hr rfl (fun t ht hW => ⟨⟨0, (), rfl, by rw [← hz, hE], by rw [ht, ← hz, hE]; exact hP9, va_K.moved hW.alike hK9, by rw [← hz, hE]; exact hD9⟩, hS.F ht⟩) hS.2.2 d_M_reads_174
                          · exact absurd c_285 (by decide)
                    · rw [if_neg c_274] at hg_rd1
                      refine lv_iload_n hx hb d_M_reads_117 rfl (lv_at hl 1 rfl) ?_
                      refine lv_bipush (v := 6) hx hb d_M_reads_118 (by decide) ?_
                      refine lv_icmp_ne (tgt := 132) hx hb d_M_reads_120 (by decide) (fun c_292 => ?_) (fun c_292 => ?_)
                      · rw [if_neg c_292] at hg_rd1
                        refine lv_iload_n hx hb d_M_reads_132 rfl (lv_at hl 0 rfl) ?_
                        refine lv_bipush (v := 6) hx hb d_M_reads_133 (by decide) ?_
                        refine lv_icmp_le (tgt := 142) hx hb d_M_reads_135 (by decide) (fun c_293 => ?_) (fun c_293 => ?_)
                        · rw [if_pos c_293] at hg_rd1
                          refine lv_iconst (v := 0) hx hb d_M_reads_142 (by decide) ?_
                          refine lv_istore_n (lv' := [(3, .int 0), (2, .int (g_Mg_step (g_Mg_word v_sz x_260.2.1 f_sa))), (1, .int la), (0, .ref a_m)]) hx hb d_M_reads_143 rfl hl (by decide) rfl (fun ls hl => ?_)
                          refine lv_iload_n hx hb d_M_reads_144 rfl (lv_at hl 1 rfl) ?_
                          refine lv_if_eq (tgt := 152) hx hb d_M_reads_145 (by decide) (fun c_294 => ?_) (fun c_294 => ?_)
                          · subst hg_rd1
                            dsimp only at hE
                            rw [if_neg (by decide)] at hE
                            rw [if_neg (by decide)] at hE
                            rw [if_pos rfl] at hE
                            refine lv_aload_n hx hb d_M_reads_152 rfl (lv_at hl 3 rfl) ?_
                            refine lv_aload_n hx hb d_M_reads_153 rfl (lv_at hl 3 rfl) ?_
                            refine va_get (D := (dC, dI)) (ci := 5) (v := .int x_260.2.1) (C := "LoanRulesModel") (T := Fz_M) (N := 22) hx hb hts it_M hown hK hP 0 rfl rfl 3 (by decide) (hts _ tw_604) (fun _ h9 => h9) rfl d_M_reads_154 ?_
                            have hPc := hP.sub (ws' := [(a_m, .inr (5, [.int v_th, .ref a_sa, .int v_sz, .int x_260.2.1, .int x_260.2.2, .ref a_ru, .ref a_me, .ref a_le, .int v_n, .ref a_cl, .ref a_te, .ref a_ki, .ref a_ty, .ref a_bl, .ref a_ex, .ref a_lo, .int v_nl, .ref a_ho, .ref a_fi, .int v_nf, .ref a_cz, .int v_nc]))]) [0] rfl
                            have hKc := hK.sub (tys' := []) [] rfl
                            have hDc := hD.sub (ws' := [(a_m, .inr (5, [.int v_th, .ref a_sa, .int v_sz, .int x_260.2.1, .int x_260.2.2, .ref a_ru, .ref a_me, .ref a_le, .int v_n, .ref a_cl, .ref a_te, .ref a_ki, .ref a_ty, .ref a_bl, .ref a_ex, .ref a_lo, .int v_nl, .ref a_ho, .ref a_fi, .int v_nf, .ref a_cz, .int v_nc]))]) [0] (by decide) rfl
                            have hFc := va_free (wc := [(a_m, .inr (5, [.int v_th, .ref a_sa, .int v_sz, .int x_260.2.1, .int x_260.2.2, .ref a_ru, .ref a_me, .ref a_le, .int v_n, .ref a_cl, .ref a_te, .ref a_ki, .ref a_ty, .ref a_bl, .ref a_ex, .ref a_lo, .int v_nl, .ref a_ho, .ref a_fi, .int v_nf, .ref a_cz, .int v_nc]))]) hD hS hA [0] rfl
                            refine va_calli (va_runV (As := [.int x_260.2.1]) (rest := []) ⟨hx, hb, hml, hown, hts⟩ (c_Mg_bad l dC dI adK adV (a_m := a_m) (p0 := x_260.2.1) (v_th := v_th) (a_sa := a_sa) (v_sz := v_sz) (v_at := x_260.2.1) (v_wr := x_260.2.2) (a_ru := a_ru) (a_me := a_me) (a_le := a_le) (v_n := v_n) (a_cl := a_cl) (a_te := a_te) (a_ki := a_ki) (a_ty := a_ty) (a_bl := a_bl) (a_ex := a_ex) (a_lo := a_lo) (v_nl := v_nl) (a_ho := a_ho) (a_fi := a_fi) (v_nf := v_nf) (a_cz := a_cz) (v_nc := v_nc) (sz := H.size)) (cwV 1 hts (gV tw_688 tw_690 tw_28 tw_46 tw_691) rfl rfl rfl (by decide +kernel) ⟨(Nat.le_of_ble_eq_true rfl), (Nat.le_of_ble_eq_true rfl)⟩) ⟨fun a U g mk q => by obtain ⟨q0, q1, qZ, qP, qK, qD⟩ := q; exact ⟨q0, q1, zz_call qZ, qP, va_K.moved (u := U) (U := U.calling g mk a) (Vm.Alike.refl U.vm) qK, qD⟩, va_recv hKc hPc (ci := 5) (q0 := 0) rfl rfl, fun U hU hW => ⟨rfl, by rw [hU], zz_rw hS hFc hU hW hZ, by rw [hU]; exact hPc, va_K.moved hW.alike hKc, hDc.weaken (fun _ _ _ _ => trivial)⟩⟩ rfl rfl hl.1 rfl (lv_room (Nat.le_of_ble_eq_true rfl)) d_M_reads_157 ⟨(Nat.le_of_ble_eq_true rfl), (Nat.le_of_ble_eq_true rfl)⟩) hS (fun q _ h => hFc q h) hFc (fun r_295 u t H1 locs ht hvm hw_296 hB hz1 hk1 hS => ?_)
                            obtain ⟨hP1, hK1, hD1⟩ := hB
                            rw [ht] at hP1
                            have hK1 := va_K.moved hvm.symm hK1
                            obtain rfl : r_295 = 0 := hw_296
                            obtain ⟨hP, hD⟩ := va_join (wr := [(a_sa, .inl (k_sa, 120, .inl f_sa)), (a_ru, .inl (k_ru, 410, .inl R))]) (w1 := [(a_m, .inr (5, [.int v_th, .ref a_sa, .int v_sz, .int x_260.2.1, .int x_260.2.1, .ref a_ru, .ref a_me, .ref a_le, .int v_n, .ref a_cl, .ref a_te, .ref a_ki, .ref a_ty, .ref a_bl, .ref a_ex, .ref a_lo, .int v_nl, .ref a_ho, .ref a_fi, .int v_nf, .ref a_cz, .int v_nc]))]) hP hD [0] [1, 2] rfl rfl (by decide) (by decide) hk1 hFc hP1 hD1
                            replace hK := (hK.sub (tys' := [(k_sa, .byte), (k_ru, .int)]) [0, 1] rfl).app hK1
                            generalize H1 = H at hP hS ⊢
                            replace hP := hP.sub (ws' := [(a_m, .inr (5, [.int v_th, .ref a_sa, .int v_sz, .int x_260.2.1, .int x_260.2.1, .ref a_ru, .ref a_me, .ref a_le, .int v_n, .ref a_cl, .ref a_te, .ref a_ki, .ref a_ty, .ref a_bl, .ref a_ex, .ref a_lo, .int v_nl, .ref a_ho, .ref a_fi, .int v_nf, .ref a_cz, .int v_nc])), (a_sa, .inl (k_sa, 120, .inl f_sa)), (a_ru, .inl (k_ru, 410, .inl R))]) [2, 0, 1] rfl
                            replace hD := hD.sub (ws' := [(a_m, .inr (5, [.int v_th, .ref a_sa, .int v_sz, .int x_260.2.1, .int x_260.2.1, .ref a_ru, .ref a_me, .ref a_le, .int v_n, .ref a_cl, .ref a_te, .ref a_ki, .ref a_ty, .ref a_bl, .ref a_ex, .ref a_lo, .int v_nl, .ref a_ho, .ref a_fi, .int v_nf, .ref a_cz, .int v_nc])), (a_sa, .inl (k_sa, 120, .inl f_sa)), (a_ru, .inl (k_ru, 410, .inl R))]) [2, 0, 1] (by decide) rfl
                            replace hK := hK.sub (tys' := [(k_sa, .byte), (k_ru, .int)]) [0, 1] rfl
                            have hP9 := hP.sub (ws' := [(a_m, .inr (5, [.int v_th, .ref a_sa, .int v_sz, .int x_260.2.1, .int x_260.2.1, .ref a_ru, .ref a_me, .ref a_le, .int v_n, .ref a_cl, .ref a_te, .ref a_ki, .ref a_ty, .ref a_bl, .ref a_ex, .ref a_lo, .int v_nl, .ref a_ho, .ref a_fi, .int v_nf, .ref a_cz, .int v_nc])), (a_sa, .inl (k_sa, 120, .inl f_sa)), (a_ru, .inl (k_ru, 410, .inl R))]) [0, 1, 2] rfl
                            have hD9 := hD.sub (ws' := [(a_m, .inr (5, [.int v_th, .ref a_sa, .int v_sz, .int x_260.2.1, .int x_260.2.1, .ref a_ru, .ref a_me, .ref a_le, .int v_n, .ref a_cl, .ref a_te, .ref a_ki, .ref a_ty, .ref a_bl, .ref a_ex, .ref a_lo, .int v_nl, .ref a_ho, .ref a_fi, .int v_nf, .ref a_cz, .int v_nc])), (a_sa, .inl (k_sa, 120, .inl f_sa)), (a_ru, .inl (k_ru, 410, .inl R))]) [0, 1, 2] (by decide) rfl
                            have hK9 := hK.sub (tys' := [(k_sa, .byte), (k_ru, .int)]) [0, 1] rfl
                            exact W.zret (v := 0) hx hb hr rfl (fun t ht hW => ⟨⟨0, (), rfl, by rw [← hz, hE], by rw [ht, ← hz, hE]; exact hP9, va_K.moved hW.alike hK9, by rw [← hz, hE]; exact hD9⟩, hS.F ht⟩) hS.2.2 d_M_reads_160
                          · refine lv_iload_n hx hb d_M_reads_148 rfl (lv_at hl 0 rfl) ?_
                            refine lv_if_ne (tgt := 161) hx hb d_M_reads_149 (by decide) (fun c_297 => ?_) (fun c_297 => ?_)
                            · exact absurd (by decide) c_297
                            · subst hg_rd1
                              dsimp only at hE
                              rw [if_neg (by decide)] at hE
                              rw [if_neg (by decide)] at hE
                              rw [if_pos rfl] at hE
                              refine lv_aload_n hx hb d_M_reads_152 rfl (lv_at hl 3 rfl) ?_
                              refine lv_aload_n hx hb d_M_reads_153 rfl (lv_at hl 3 rfl) ?_
                              refine va_get (D := (dC, dI)) (ci := 5) (v := .int x_260.2.1) (C := "LoanRulesModel") (T := Fz_M) (N := 22) hx hb hts it_M hown hK hP 0 rfl rfl 3 (by decide) (hts _ tw_604) (fun _ h9 => h9) rfl d_M_reads_154 ?_
                              have hPc := hP.sub (ws' := [(a_m, .inr (5, [.int v_th, .ref a_sa, .int v_sz, .int x_260.2.1, .int x_260.2.2, .ref a_ru, .ref a_me, .ref a_le, .int v_n, .ref a_cl, .ref a_te, .ref a_ki, .ref a_ty, .ref a_bl, .ref a_ex, .ref a_lo, .int v_nl, .ref a_ho, .ref a_fi, .int v_nf, .ref a_cz, .int v_nc]))]) [0] rfl
                              have hKc := hK.sub (tys' := []) [] rfl
                              have hDc := hD.sub (ws' := [(a_m, .inr (5, [.int v_th, .ref a_sa, .int v_sz, .int x_260.2.1, .int x_260.2.2, .ref a_ru, .ref a_me, .ref a_le, .int v_n, .ref a_cl, .ref a_te, .ref a_ki, .ref a_ty, .ref a_bl, .ref a_ex, .ref a_lo, .int v_nl, .ref a_ho, .ref a_fi, .int v_nf, .ref a_cz, .int v_nc]))]) [0] (by decide) rfl
                              have hFc := va_free (wc := [(a_m, .inr (5, [.int v_th, .ref a_sa, .int v_sz, .int x_260.2.1, .int x_260.2.2, .ref a_ru, .ref a_me, .ref a_le, .int v_n, .ref a_cl, .ref a_te, .ref a_ki, .ref a_ty, .ref a_bl, .ref a_ex, .ref a_lo, .int v_nl, .ref a_ho, .ref a_fi, .int v_nf, .ref a_cz, .int v_nc]))]) hD hS hA [0] rfl
                              refine va_calli (va_runV (As := [.int x_260.2.1]) (rest := []) ⟨hx, hb, hml, hown, hts⟩ (c_Mg_bad l dC dI adK adV (a_m := a_m) (p0 := x_260.2.1) (v_th := v_th) (a_sa := a_sa) (v_sz := v_sz) (v_at := x_260.2.1) (v_wr := x_260.2.2) (a_ru := a_ru) (a_me := a_me) (a_le := a_le) (v_n := v_n) (a_cl := a_cl) (a_te := a_te) (a_ki := a_ki) (a_ty := a_ty) (a_bl := a_bl) (a_ex := a_ex) (a_lo := a_lo) (v_nl := v_nl) (a_ho := a_ho) (a_fi := a_fi) (v_nf := v_nf) (a_cz := a_cz) (v_nc := v_nc) (sz := H.size)) (cwV 1 hts (gV tw_688 tw_690 tw_28 tw_46 tw_691) rfl rfl rfl (by decide +kernel) ⟨(Nat.le_of_ble_eq_true rfl), (Nat.le_of_ble_eq_true rfl)⟩) ⟨fun a U g mk q => by obtain ⟨q0, q1, qZ, qP, qK, qD⟩ := q; exact ⟨q0, q1, zz_call qZ, qP, va_K.moved (u := U) (U := U.calling g mk a) (Vm.Alike.refl U.vm) qK, qD⟩, va_recv hKc hPc (ci := 5) (q0 := 0) rfl rfl, fun U hU hW => ⟨rfl, by rw [hU], zz_rw hS hFc hU hW hZ, by rw [hU]; exact hPc, va_K.moved hW.alike hKc, hDc.weaken (fun _ _ _ _ => trivial)⟩⟩ rfl rfl hl.1 rfl (lv_room (Nat.le_of_ble_eq_true rfl)) d_M_reads_157 ⟨(Nat.le_of_ble_eq_true rfl), (Nat.le_of_ble_eq_true rfl)⟩) hS (fun q _ h => hFc q h) hFc (fun r_298 u t H1 locs ht hvm hw_299 hB hz1 hk1 hS => ?_)
                              obtain ⟨hP1, hK1, hD1⟩ := hB
                              rw [ht] at hP1
                              have hK1 := va_K.moved hvm.symm hK1
                              obtain rfl : r_298 = 0 := hw_299
                              obtain ⟨hP, hD⟩ := va_join (wr := [(a_sa, .inl (k_sa, 120, .inl f_sa)), (a_ru, .inl (k_ru, 410, .inl R))]) (w1 := [(a_m, .inr (5, [.int v_th, .ref a_sa, .int v_sz, .int x_260.2.1, .int x_260.2.1, .ref a_ru, .ref a_me, .ref a_le, .int v_n, .ref a_cl, .ref a_te, .ref a_ki, .ref a_ty, .ref a_bl, .ref a_ex, .ref a_lo, .int v_nl, .ref a_ho, .ref a_fi, .int v_nf, .ref a_cz, .int v_nc]))]) hP hD [0] [1, 2] rfl rfl (by decide) (by decide) hk1 hFc hP1 hD1
                              replace hK := (hK.sub (tys' := [(k_sa, .byte), (k_ru, .int)]) [0, 1] rfl).app hK1
                              generalize H1 = H at hP hS ⊢
                              replace hP := hP.sub (ws' := [(a_m, .inr (5, [.int v_th, .ref a_sa, .int v_sz, .int x_260.2.1, .int x_260.2.1, .ref a_ru, .ref a_me, .ref a_le, .int v_n, .ref a_cl, .ref a_te, .ref a_ki, .ref a_ty, .ref a_bl, .ref a_ex, .ref a_lo, .int v_nl, .ref a_ho, .ref a_fi, .int v_nf, .ref a_cz, .int v_nc])), (a_sa, .inl (k_sa, 120, .inl f_sa)), (a_ru, .inl (k_ru, 410, .inl R))]) [2, 0, 1] rfl
                              replace hD := hD.sub (ws' := [(a_m, .inr (5, [.int v_th, .ref a_sa, .int v_sz, .int x_260.2.1, .int x_260.2.1, .ref a_ru, .ref a_me, .ref a_le, .int v_n, .ref a_cl, .ref a_te, .ref a_ki, .ref a_ty, .ref a_bl, .ref a_ex, .ref a_lo, .int v_nl, .ref a_ho, .ref a_fi, .int v_nf, .ref a_cz, .int v_nc])), (a_sa, .inl (k_sa, 120, .inl f_sa)), (a_ru, .inl (k_ru, 410, .inl R))]) [2, 0, 1] (by decide) rfl
                              replace hK := hK.sub (tys' := [(k_sa, .byte), (k_ru, .int)]) [0, 1] rfl
                              have hP9 := hP.sub (ws' := [(a_m, .inr (5, [.int v_th, .ref a_sa, .int v_sz, .int x_260.2.1, .int x_260.2.1, .ref a_ru, .ref a_me, .ref a_le, .int v_n, .ref a_cl, .ref a_te, .ref a_ki, .ref a_ty, .ref a_bl, .ref a_ex, .ref a_lo, .int v_nl, .ref a_ho, .ref a_fi, .int v_nf, .ref a_cz, .int v_nc])), (a_sa, .inl (k_sa, 120, .inl f_sa)), (a_ru, .inl (k_ru, 410, .inl R))]) [0, 1, 2] rfl
                              have hD9 := hD.sub (ws' := [(a_m, .inr (5, [.int v_th, .ref a_sa, .int v_sz, .int x_260.2.1, .int x_260.2.1, .ref a_ru, .ref a_me, .ref a_le, .int v_n, .ref a_cl, .ref a_te, .ref a_ki, .ref a_ty, .ref a_bl, .ref a_ex, .ref a_lo, .int v_nl, .ref a_ho, .ref a_fi, .int v_nf, .ref a_cz, .int v_nc])), (a_sa, .inl (k_sa, 120, .inl f_sa)), (a_ru, .inl (k_ru, 410, .inl R))]) [0, 1, 2] (by decide) rfl
                              have hK9 := hK.sub (tys' := [(k_sa, .byte), (k_ru, .int)]) [0, 1] rfl
                              exact W.zret (v := 0) hx hb hr rfl (fun t ht hW => ⟨⟨0, (), rfl, by rw [← hz, hE], by rw [ht, ← hz, hE]; exact hP9, va_K.moved hW.alike hK9, by rw [← hz, hE]; exact hD9⟩, hS.F ht⟩) hS.2.2 d_M_reads_160
                        · rw [if_neg c_293] at hg_rd1
                          refine lv_iconst (v := 1) hx hb d_M_reads_138 (by decide) ?_
                          refine lv_goto (tgt := 143) hx hb d_M_reads_139 (by decide) ?_
                          refine lv_istore_n (lv' := [(3, .int 1), (2, .int (g_Mg_step (g_Mg_word v_sz x_260.2.1 f_sa))), (1, .int la), (0, .ref a_m)]) hx hb d_M_reads_143 rfl hl (by decide) rfl (fun ls hl => ?_)
                          refine lv_iload_n hx hb d_M_reads_144 rfl (lv_at hl 1 rfl) ?_
                          refine lv_if_eq (tgt := 152) hx hb d_M_reads_145 (by decide) (fun c_300 => ?_) (fun c_300 => ?_)
                          · rw [if_pos c_300] at hg_rd1
                            subst hg_rd1
                            dsimp only at hE
                            rw [if_neg (by decide)] at hE
                            rw [if_neg (by decide)] at hE
                            rw [if_pos rfl] at hE
                            refine lv_aload_n hx hb d_M_reads_152 rfl (lv_at hl 3 rfl) ?_
                            refine lv_aload_n hx hb d_M_reads_153 rfl (lv_at hl 3 rfl) ?_
                            refine va_get (D := (dC, dI)) (ci := 5) (v := .int x_260.2.1) (C := "LoanRulesModel") (T := Fz_M) (N := 22) hx hb hts it_M hown hK hP 0 rfl rfl 3 (by decide) (hts _ tw_604) (fun _ h9 => h9) rfl d_M_reads_154 ?_
                            have hPc := hP.sub (ws' := [(a_m, .inr (5, [.int v_th, .ref a_sa, .int v_sz, .int x_260.2.1, .int x_260.2.2, .ref a_ru, .ref a_me, .ref a_le, .int v_n, .ref a_cl, .ref a_te, .ref a_ki, .ref a_ty, .ref a_bl, .ref a_ex, .ref a_lo, .int v_nl, .ref a_ho, .ref a_fi, .int v_nf, .ref a_cz, .int v_nc]))]) [0] rfl
                            have hKc := hK.sub (tys' := []) [] rfl
                            have hDc := hD.sub (ws' := [(a_m, .inr (5, [.int v_th, .ref a_sa, .int v_sz, .int x_260.2.1, .int x_260.2.2, .ref a_ru, .ref a_me, .ref a_le, .int v_n, .ref a_cl, .ref a_te, .ref a_ki, .ref a_ty, .ref a_bl, .ref a_ex, .ref a_lo, .int v_nl, .ref a_ho, .ref a_fi, .int v_nf, .ref a_cz, .int v_nc]))]) [0] (by decide) rfl
                            have hFc := va_free (wc := [(a_m, .inr (5, [.int v_th, .ref a_sa, .int v_sz, .int x_260.2.1, .int x_260.2.2, .ref a_ru, .ref a_me, .ref a_le, .int v_n, .ref a_cl, .ref a_te, .ref a_ki, .ref a_ty, .ref a_bl, .ref a_ex, .ref a_lo, .int v_nl, .ref a_ho, .ref a_fi, .int v_nf, .ref a_cz, .int v_nc]))]) hD hS hA [0] rfl
                            refine va_calli (va_runV (As := [.int x_260.2.1]) (rest := []) ⟨hx, hb, hml, hown, hts⟩ (c_Mg_bad l dC dI adK adV (a_m := a_m) (p0 := x_260.2.1) (v_th := v_th) (a_sa := a_sa) (v_sz := v_sz) (v_at := x_260.2.1) (v_wr := x_260.2.2) (a_ru := a_ru) (a_me := a_me) (a_le := a_le) (v_n := v_n) (a_cl := a_cl) (a_te := a_te) (a_ki := a_ki) (a_ty := a_ty) (a_bl := a_bl) (a_ex := a_ex) (a_lo := a_lo) (v_nl := v_nl) (a_ho := a_ho) (a_fi := a_fi) (v_nf := v_nf) (a_cz := a_cz) (v_nc := v_nc) (sz := H.size)) (cwV 1 hts (gV tw_688 tw_690 tw_28 tw_46 tw_691) rfl rfl rfl (by decide +kernel) ⟨(Nat.le_of_ble_eq_true rfl), (Nat.le_of_ble_eq_true rfl)⟩) ⟨fun a U g mk q => by obtain ⟨q0, q1, qZ, qP, qK, qD⟩ := q; exact ⟨q0, q1, zz_call qZ, qP, va_K.moved (u := U) (U := U.calling g mk a) (Vm.Alike.refl U.vm) qK, qD⟩, va_recv hKc hPc (ci := 5) (q0 := 0) rfl rfl, fun U hU hW => ⟨rfl, by rw [hU], zz_rw hS hFc hU hW hZ, by rw [hU]; exact hPc, va_K.moved hW.alike hKc, hDc.weaken (fun _ _ _ _ => trivial)⟩⟩ rfl rfl hl.1 rfl (lv_room (Nat.le_of_ble_eq_true rfl)) d_M_reads_157 ⟨(Nat.le_of_ble_eq_true rfl), (Nat.le_of_ble_eq_true rfl)⟩) hS (fun q _ h => hFc q h) hFc (fun r_301 u t H1 locs ht hvm hw_302 hB hz1 hk1 hS => ?_)
                            obtain ⟨hP1, hK1, hD1⟩ := hB
                            rw [ht] at hP1
                            have hK1 := va_K.moved hvm.symm hK1
                            obtain rfl : r_301 = 0 := hw_302
                            obtain ⟨hP, hD⟩ := va_join (wr := [(a_sa, .inl (k_sa, 120, .inl f_sa)), (a_ru, .inl (k_ru, 410, .inl R))]) (w1 := [(a_m, .inr (5, [.int v_th, .ref a_sa, .int v_sz, .int x_260.2.1, .int x_260.2.1, .ref a_ru, .ref a_me, .ref a_le, .int v_n, .ref a_cl, .ref a_te, .ref a_ki, .ref a_ty, .ref a_bl, .ref a_ex, .ref a_lo, .int v_nl, .ref a_ho, .ref a_fi, .int v_nf, .ref a_cz, .int v_nc]))]) hP hD [0] [1, 2] rfl rfl (by decide) (by decide) hk1 hFc hP1 hD1
                            replace hK := (hK.sub (tys' := [(k_sa, .byte), (k_ru, .int)]) [0, 1] rfl).app hK1
                            generalize H1 = H at hP hS ⊢
                            replace hP := hP.sub (ws' := [(a_m, .inr (5, [.int v_th, .ref a_sa, .int v_sz, .int x_260.2.1, .int x_260.2.1, .ref a_ru, .ref a_me, .ref a_le, .int v_n, .ref a_cl, .ref a_te, .ref a_ki, .ref a_ty, .ref a_bl, .ref a_ex, .ref a_lo, .int v_nl, .ref a_ho, .ref a_fi, .int v_nf, .ref a_cz, .int v_nc])), (a_sa, .inl (k_sa, 120, .inl f_sa)), (a_ru, .inl (k_ru, 410, .inl R))]) [2, 0, 1] rfl
                            replace hD := hD.sub (ws' := [(a_m, .inr (5, [.int v_th, .ref a_sa, .int v_sz, .int x_260.2.1, .int x_260.2.1, .ref a_ru, .ref a_me, .ref a_le, .int v_n, .ref a_cl, .ref a_te, .ref a_ki, .ref a_ty, .ref a_bl, .ref a_ex, .ref a_lo, .int v_nl, .ref a_ho, .ref a_fi, .int v_nf, .ref a_cz, .int v_nc])), (a_sa, .inl (k_sa, 120, .inl f_sa)), (a_ru, .inl (k_ru, 410, .inl R))]) [2, 0, 1] (by decide) rfl
                            replace hK := hK.sub (tys' := [(k_sa, .byte), (k_ru, .int)]) [0, 1] rfl
                            have hP9 := hP.sub (ws' := [(a_m, .inr (5, [.int v_th, .ref a_sa, .int v_sz, .int x_260.2.1, .int x_260.2.1, .ref a_ru, .ref a_me, .ref a_le, .int v_n, .ref a_cl, .ref a_te, .ref a_ki, .ref a_ty, .ref a_bl, .ref a_ex, .ref a_lo, .int v_nl, .ref a_ho, .ref a_fi, .int v_nf, .ref a_cz, .int v_nc])), (a_sa, .inl (k_sa, 120, .inl f_sa)), (a_ru, .inl (k_ru, 410, .inl R))]) [0, 1, 2] rfl
                            have hD9 := hD.sub (ws' := [(a_m, .inr (5, [.int v_th, .ref a_sa, .int v_sz, .int x_260.2.1, .int x_260.2.1, .ref a_ru, .ref a_me, .ref a_le, .int v_n, .ref a_cl, .ref a_te, .ref a_ki, .ref a_ty, .ref a_bl, .ref a_ex, .ref a_lo, .int v_nl, .ref a_ho, .ref a_fi, .int v_nf, .ref a_cz, .int v_nc])), (a_sa, .inl (k_sa, 120, .inl f_sa)), (a_ru, .inl (k_ru, 410, .inl R))]) [0, 1, 2] (by decide) rfl
                            have hK9 := hK.sub (tys' := [(k_sa, .byte), (k_ru, .int)]) [0, 1] rfl
                            exact W.zret (v := 0) hx hb hr rfl (fun t ht hW => ⟨⟨0, (), rfl, by rw [← hz, hE], by rw [ht, ← hz, hE]; exact hP9, va_K.moved hW.alike hK9, by rw [← hz, hE]; exact hD9⟩, hS.F ht⟩) hS.2.2 d_M_reads_160
                          · rw [if_neg c_300] at hg_rd1
                            refine lv_iload_n hx hb d_M_reads_148 rfl (lv_at hl 0 rfl) ?_
                            refine lv_if_ne (tgt := 161) hx hb d_M_reads_149 (by decide) (fun c_303 => ?_) (fun c_303 => ?_)
                            · refine lv_aload_n hx hb d_M_reads_161 rfl (lv_at hl 3 rfl) ?_
                              have hPc := hP.sub (ws' := [(a_m, .inr (5, [.int v_th, .ref a_sa, .int v_sz, .int x_260.2.1, .int x_260.2.2, .ref a_ru, .ref a_me, .ref a_le, .int v_n, .ref a_cl, .ref a_te, .ref a_ki, .ref a_ty, .ref a_bl, .ref a_ex, .ref a_lo, .int v_nl, .ref a_ho, .ref a_fi, .int v_nf, .ref a_cz, .int v_nc])), (a_sa, .inl (k_sa, 120, .inl f_sa))]) [0, 1] rfl
                              have hKc := hK.sub (tys' := [(k_sa, .byte)]) [0] rfl
                              have hDc := hD.sub (ws' := [(a_m, .inr (5, [.int v_th, .ref a_sa, .int v_sz, .int x_260.2.1, .int x_260.2.2, .ref a_ru, .ref a_me, .ref a_le, .int v_n, .ref a_cl, .ref a_te, .ref a_ki, .ref a_ty, .ref a_bl, .ref a_ex, .ref a_lo, .int v_nl, .ref a_ho, .ref a_fi, .int v_nf, .ref a_cz, .int v_nc])), (a_sa, .inl (k_sa, 120, .inl f_sa))]) [0, 1] (by decide) rfl
                              have hFc := va_free (wc := [(a_m, .inr (5, [.int v_th, .ref a_sa, .int v_sz, .int x_260.2.1, .int x_260.2.2, .ref a_ru, .ref a_me, .ref a_le, .int v_n, .ref a_cl, .ref a_te, .ref a_ki, .ref a_ty, .ref a_bl, .ref a_ex, .ref a_lo, .int v_nl, .ref a_ho, .ref a_fi, .int v_nf, .ref a_cz, .int v_nc])), (a_sa, .inl (k_sa, 120, .inl f_sa))]) hD hS hA [0, 1] rfl
                              refine va_callv (va_runV (As := []) (rest := []) ⟨hx, hb, hml, hown, hts⟩ (c_Mg_pass l dC dI adK adV (a_m := a_m) (v_th := v_th) (a_sa := a_sa) (v_sz := v_sz) (v_at := x_260.2.1) (v_wr := x_260.2.2) (a_ru := a_ru) (a_me := a_me) (a_le := a_le) (v_n := v_n) (a_cl := a_cl) (a_te := a_te) (a_ki := a_ki) (a_ty := a_ty) (a_bl := a_bl) (a_ex := a_ex) (a_lo := a_lo) (v_nl := v_nl) (a_ho := a_ho) (a_fi := a_fi) (v_nf := v_nf) (a_cz := a_cz) (v_nc := v_nc) (k_sa := k_sa) (f_sa := f_sa) (sz := H.size) hsz (hg_x_260 ▸ space_at hsz ha)) (cwV 0 hts (gV tw_712 tw_714 tw_30 tw_46 tw_715) rfl rfl rfl (by decide +kernel) ⟨(Nat.le_of_ble_eq_true rfl), (Nat.le_of_ble_eq_true rfl)⟩) ⟨fun a U g mk q => by obtain ⟨q0, q1, qZ, qP, qK, qD⟩ := q; exact ⟨q0, q1, zz_call qZ, qP, va_K.moved (u := U) (U := U.calling g mk a) (Vm.Alike.refl U.vm) qK, qD⟩, va_recv hKc hPc (ci := 5) (q0 := 0) rfl rfl, fun U hU hW => ⟨rfl, by rw [hU], zz_rw hS hFc hU hW hZ, by rw [hU]; exact hPc, va_K.moved hW.alike hKc, hDc.weaken (fun _ _ _ _ => trivial)⟩⟩ rfl rfl hl.1 rfl (lv_room (Nat.le_of_ble_eq_true rfl)) d_M_reads_162 ⟨(Nat.le_of_ble_eq_true rfl), (Nat.le_of_ble_eq_true rfl)⟩) hS (fun q _ h => hFc q h) hFc (fun u t H1 locs ht hvm hw_304 hB hz1 hk1 hS => ?_)
                              generalize hg_x_305 : g_Mg_pass v_sz x_260.2.1 f_sa = x_305 at hw_304 hB hg_rd1
                              rw [bv_eq] at hg_rd1
                              obtain ⟨hP1, hK1, hD1⟩ := hB
                              rw [ht] at hP1
                              have hK1 := va_K.moved hvm.symm hK1
                              obtain ⟨hP, hD⟩ := va_join (wr := [(a_ru, .inl (k_ru, 410, .inl R))]) (w1 := [(a_m, .inr (5, [.int v_th, .ref a_sa, .int v_sz, .int x_305, .int x_260.2.2, .ref a_ru, .ref a_me, .ref a_le, .int v_n, .ref a_cl, .ref a_te, .ref a_ki, .ref a_ty, .ref a_bl, .ref a_ex, .ref a_lo, .int v_nl, .ref a_ho, .ref a_fi, .int v_nf, .ref a_cz, .int v_nc])), (a_sa, .inl (k_sa, 120, .inl f_sa))]) hP hD [0, 1] [2] rfl rfl (by decide) (by decide) hk1 hFc hP1 hD1
                              replace hK := (hK.sub (tys' := [(k_ru, .int)]) [1] rfl).app hK1
                              generalize H1 = H at hP hS ⊢
                              replace hP := hP.sub (ws' := [(a_m, .inr (5, [.int v_th, .ref a_sa, .int v_sz, .int x_305, .int x_260.2.2, .ref a_ru, .ref a_me, .ref a_le, .int v_n, .ref a_cl, .ref a_te, .ref a_ki, .ref a_ty, .ref a_bl, .ref a_ex, .ref a_lo, .int v_nl, .ref a_ho, .ref a_fi, .int v_nf, .ref a_cz, .int v_nc])), (a_sa, .inl (k_sa, 120, .inl f_sa)), (a_ru, .inl (k_ru, 410, .inl R))]) [1, 2, 0] rfl
                              replace hD := hD.sub (ws' := [(a_m, .inr (5, [.int v_th, .ref a_sa, .int v_sz, .int x_305, .int x_260.2.2, .ref a_ru, .ref a_me, .ref a_le, .int v_n, .ref a_cl, .ref a_te, .ref a_ki, .ref a_ty, .ref a_bl, .ref a_ex, .ref a_lo, .int v_nl, .ref a_ho, .ref a_fi, .int v_nf, .ref a_cz, .int v_nc])), (a_sa, .inl (k_sa, 120, .inl f_sa)), (a_ru, .inl (k_ru, 410, .inl R))]) [1, 2, 0] (by decide) rfl
                              replace hK := hK.sub (tys' := [(k_sa, .byte), (k_ru, .int)]) [1, 0] rfl
                              refine lv_aload_n hx hb d_M_reads_165 rfl (lv_at hl 3 rfl) ?_
                              refine lv_iload_n hx hb d_M_reads_166 rfl (lv_at hl 1 rfl) ?_
                              have hPc := hP.sub (ws' := [(a_m, .inr (5, [.int v_th, .ref a_sa, .int v_sz, .int x_305, .int x_260.2.2, .ref a_ru, .ref a_me, .ref a_le, .int v_n, .ref a_cl, .ref a_te, .ref a_ki, .ref a_ty, .ref a_bl, .ref a_ex, .ref a_lo, .int v_nl, .ref a_ho, .ref a_fi, .int v_nf, .ref a_cz, .int v_nc])), (a_sa, .inl (k_sa, 120, .inl f_sa)), (a_ru, .inl (k_ru, 410, .inl R))]) [0, 1, 2] rfl
                              have hKc := hK.sub (tys' := [(k_sa, .byte), (k_ru, .int)]) [0, 1] rfl
                              have hDc := hD.sub (ws' := [(a_m, .inr (5, [.int v_th, .ref a_sa, .int v_sz, .int x_305, .int x_260.2.2, .ref a_ru, .ref a_me, .ref a_le, .int v_n, .ref a_cl, .ref a_te, .ref a_ki, .ref a_ty, .ref a_bl, .ref a_ex, .ref a_lo, .int v_nl, .ref a_ho, .ref a_fi, .int v_nf, .ref a_cz, .int v_nc])), (a_sa, .inl (k_sa, 120, .inl f_sa)), (a_ru, .inl (k_ru, 410, .inl R))]) [0, 1, 2] (by decide) rfl
                              have hFc := va_free (wc := [(a_m, .inr (5, [.int v_th, .ref a_sa, .int v_sz, .int x_305, .int x_260.2.2, .ref a_ru, .ref a_me, .ref a_le, .int v_n, .ref a_cl, .ref a_te, .ref a_ki, .ref a_ty, .ref a_bl, .ref a_ex, .ref a_lo, .int v_nl, .ref a_ho, .ref a_fi, .int v_nf, .ref a_cz, .int v_nc])), (a_sa, .inl (k_sa, 120, .inl f_sa)), (a_ru, .inl (k_ru, 410, .inl R))]) hD hS hA [0, 1, 2] rfl
                              refine va_calli (va_runV (As := [.int (g_Mg_step (g_Mg_word v_sz x_260.2.1 f_sa))]) (rest := []) ⟨hx, hb, hml, hown, hts⟩ (c_Mg_one l dC dI adK adV (a_m := a_m) (p0 := g_Mg_step (g_Mg_word v_sz x_260.2.1 f_sa)) (v_th := v_th) (a_sa := a_sa) (v_sz := v_sz) (v_at := x_305) (v_wr := x_260.2.2) (a_ru := a_ru) (a_me := a_me) (a_le := a_le) (v_n := v_n) (a_cl := a_cl) (a_te := a_te) (a_ki := a_ki) (a_ty := a_ty) (a_bl := a_bl) (a_ex := a_ex) (a_lo := a_lo) (v_nl := v_nl) (a_ho := a_ho) (a_fi := a_fi) (v_nf := v_nf) (a_cz := a_cz) (v_nc := v_nc) (k_sa := k_sa) (f_sa := f_sa) (k_ru := k_ru) (f_ru := R) (sz := H.size) hsz (hg_x_305 ▸ pass_at hsz (hg_x_260 ▸ space_at hsz ha)) hn) (cwV 1 hts (gV tw_716 tw_718 tw_31 tw_46 tw_719) rfl rfl rfl (by decide +kernel) ⟨(Nat.le_of_ble_eq_true rfl), (Nat.le_of_ble_eq_true rfl)⟩) ⟨fun a U g mk q => by obtain ⟨q0, q1, qZ, qP, qK, qD⟩ := q; exact ⟨q0, q1, zz_call qZ, qP, va_K.moved (u := U) (U := U.calling g mk a) (Vm.Alike.refl U.vm) qK, qD⟩, va_recv hKc hPc (ci := 5) (q0 := 0) rfl rfl, fun U hU hW => ⟨rfl, by rw [hU], zz_rw hS hFc hU hW hZ, by rw [hU]; exact hPc, va_K.moved hW.alike hKc, hDc.weaken (fun _ _ _ _ => trivial)⟩⟩ rfl rfl hl.1 rfl (lv_room (Nat.le_of_ble_eq_true rfl)) d_M_reads_167 ⟨(Nat.le_of_ble_eq_true rfl), (Nat.le_of_ble_eq_true rfl)⟩) hS (fun q _ h => hFc q h) hFc (fun r_306 u t H1 locs ht hvm hw_307 hB hz1 hk1 hS => ?_)
                              generalize hg_x_308 : g_Mg_one (g_Mg_step (g_Mg_word v_sz x_260.2.1 f_sa)) v_sz x_305 x_260.2.2 v_n f_sa R = x_308 at hw_307 hB hg_rd1
                              rw [bv_eq] at hg_rd1
                              obtain ⟨hP1, hK1, hD1⟩ := hB
                              rw [ht] at hP1
                              have hK1 := va_K.moved hvm.symm hK1
                              obtain rfl : r_306 = x_308.1 := hw_307
                              obtain ⟨hP, hD⟩ := va_join (wr := []) (w1 := [(a_m, .inr (5, [.int v_th, .ref a_sa, .int v_sz, .int x_308.2.1, .int x_308.2.2.1, .ref a_ru, .ref a_me, .ref a_le, .int v_n, .ref a_cl, .ref a_te, .ref a_ki, .ref a_ty, .ref a_bl, .ref a_ex, .ref a_lo, .int v_nl, .ref a_ho, .ref a_fi, .int v_nf, .ref a_cz, .int v_nc])), (a_sa, .inl (k_sa, 120, .inl f_sa)), (a_ru, .inl (k_ru, 410, .inl x_308.2.2.2))]) hP hD [0, 1, 2] [] rfl rfl (by decide) (by decide) hk1 hFc hP1 hD1
                              replace hK := (hK.sub (tys' := []) [] rfl).app hK1
                              generalize H1 = H at hP hS ⊢
                              replace hP := hP.sub (ws' := [(a_m, .inr (5, [.int v_th, .ref a_sa, .int v_sz, .int x_308.2.1, .int x_308.2.2.1, .ref a_ru, .ref a_me, .ref a_le, .int v_n, .ref a_cl, .ref a_te, .ref a_ki, .ref a_ty, .ref a_bl, .ref a_ex, .ref a_lo, .int v_nl, .ref a_ho, .ref a_fi, .int v_nf, .ref a_cz, .int v_nc])), (a_sa, .inl (k_sa, 120, .inl f_sa)), (a_ru, .inl (k_ru, 410, .inl x_308.2.2.2))]) [0, 1, 2] rfl
                              replace hD := hD.sub (ws' := [(a_m, .inr (5, [.int v_th, .ref a_sa, .int v_sz, .int x_308.2.1, .int x_308.2.2.1, .ref a_ru, .ref a_me, .ref a_le, .int v_n, .ref a_cl, .ref a_te, .ref a_ki, .ref a_ty, .ref a_bl, .ref a_ex, .ref a_lo, .int v_nl, .ref a_ho, .ref a_fi, .int v_nf, .ref a_cz, .int v_nc])), (a_sa, .inl (k_sa, 120, .inl f_sa)), (a_ru, .inl (k_ru, 410, .inl x_308.2.2.2))]) [0, 1, 2] (by decide) rfl
                              replace hK := hK.sub (tys' := [(k_sa, .byte), (k_ru, .int)]) [0, 1] rfl
                              refine lv_if_ne (tgt := 175) hx hb d_M_reads_170 (by decide) (fun c_309 => ?_) (fun c_309 => ?_)
                              · rw [if_neg c_309] at hg_rd1
                                refine lv_iload_n hx hb d_M_reads_175 rfl (lv_at hl 1 rfl) ?_
                                refine lv_istore_n (lv' := [(1, .int (g_Mg_step (g_Mg_word v_sz x_260.2.1 f_sa))), (3, .int 1), (2, .int (g_Mg_step (g_Mg_word v_sz x_260.2.1 f_sa))), (0, .ref a_m)]) hx hb d_M_reads_176 rfl hl (by decide) rfl (fun ls hl => ?_)
                                refine lv_goto (tgt := 56) hx hb d_M_reads_177 (by decide) ?_
                                exact ih_rd1 _ _ _ _ _ _ _ ⟨hP, hD, hS, lv_sub hl [0, 3] rfl, ((hg_x_308 ▸ one_at hsz (hg_x_305 ▸ pass_at hsz (hg_x_260 ▸ space_at hsz ha)))), (step_le _), (li_mt hla c_266 (step_le _) hm_rd1), hg_rd1⟩
                              · rw [if_pos c_309] at hg_rd1
                                subst hg_rd1
                                dsimp only at hE
                                rw [if_neg (by decide)] at hE
                                rw [if_neg (by decide)] at hE
                                rw [if_neg (by decide)] at hE
                                refine lv_iconst (v := 0) hx hb d_M_reads_173 (by decide) ?_
                                have hP9 := hP.sub (ws' := [(a_m, .inr (5, [.int v_th, .ref a_sa, .int v_sz, .int x_308.2.1, .int x_308.2.2.1, .ref a_ru, .ref a_me, .ref a_le, .int v_n, .ref a_cl, .ref a_te, .ref a_ki, .ref a_ty, .ref a_bl, .ref a_ex, .ref a_lo, .int v_nl, .ref a_ho, .ref a_fi, .int v_nf, .ref a_cz, .int v_nc])), (a_sa, .inl (k_sa, 120, .inl f_sa)), (a_ru, .inl (k_ru, 410, .inl x_308.2.2.2))]) [0, 1, 2] rfl
                                have hD9 := hD.sub (ws' := [(a_m, .inr (5, [.int v_th, .ref a_sa, .int v_sz, .int x_308.2.1, .int x_308.2.2.1, .ref a_ru, .ref a_me, .ref a_le, .int v_n, .ref a_cl, .ref a_te, .ref a_ki, .ref a_ty, .ref a_bl, .ref a_ex, .ref a_lo, .int v_nl, .ref a_ho, .ref a_fi, .int v_nf, .ref a_cz, .int v_nc])), (a_sa, .inl (k_sa, 120, .inl f_sa)), (a_ru, .inl (k_ru, 410, .inl x_308.2.2.2))]) [0, 1, 2] (by decide) rfl
                                have hK9 := hK.sub (tys' := [(k_sa, .byte), (k_ru, .int)]) [0, 1] rfl
                                exact W.zret (v := 0) hx hb hr rfl (fun t ht hW => ⟨⟨0, (), rfl, by rw [← hz, hE], by rw [ht, ← hz, hE]; exact hP9, va_K.moved hW.alike hK9, by rw [← hz, hE]; exact hD9⟩, hS.F ht⟩) hS.2.2 d_M_reads_174
                            · exact absurd c_303 (by decide)
                      · rw [if_pos c_292] at hg_rd1
                        refine lv_iload_n hx hb d_M_reads_123 rfl (lv_at hl 0 rfl) ?_
                        refine lv_bipush (v := 10) hx hb d_M_reads_124 (by decide) ?_
                        refine lv_icmp_ne (tgt := 142) hx hb d_M_reads_126 (by decide) (fun c_310 => ?_) (fun c_310 => ?_)
                        · rw [if_neg c_310] at hg_rd1
                          refine lv_iconst (v := 0) hx hb d_M_reads_142 (by decide) ?_
                          refine lv_istore_n (lv' := [(3, .int 0), (2, .int (g_Mg_step (g_Mg_word v_sz x_260.2.1 f_sa))), (1, .int la), (0, .ref a_m)]) hx hb d_M_reads_143 rfl hl (by decide) rfl (fun ls hl => ?_)
                          refine lv_iload_n hx hb d_M_reads_144 rfl (lv_at hl 1 rfl) ?_
                          refine lv_if_eq (tgt := 152) hx hb d_M_reads_145 (by decide) (fun c_311 => ?_) (fun c_311 => ?_)
                          · subst hg_rd1
                            dsimp only at hE
                            rw [if_neg (by decide)] at hE
                            rw [if_neg (by decide)] at hE
                            rw [if_pos rfl] at hE
                            refine lv_aload_n hx hb d_M_reads_152 rfl (lv_at hl 3 rfl) ?_
                            refine lv_aload_n hx hb d_M_reads_153 rfl (lv_at hl 3 rfl) ?_
                            refine va_get (D := (dC, dI)) (ci := 5) (v := .int x_260.2.1) (C := "LoanRulesModel") (T := Fz_M) (N := 22) hx hb hts it_M hown hK hP 0 rfl rfl 3 (by decide) (hts _ tw_604) (fun _ h9 => h9) rfl d_M_reads_154 ?_
                            have hPc := hP.sub (ws' := [(a_m, .inr (5, [.int v_th, .ref a_sa, .int v_sz, .int x_260.2.1, .int x_260.2.2, .ref a_ru, .ref a_me, .ref a_le, .int v_n, .ref a_cl, .ref a_te, .ref a_ki, .ref a_ty, .ref a_bl, .ref a_ex, .ref a_lo, .int v_nl, .ref a_ho, .ref a_fi, .int v_nf, .ref a_cz, .int v_nc]))]) [0] rfl
                            have hKc := hK.sub (tys' := []) [] rfl
                            have hDc := hD.sub (ws' := [(a_m, .inr (5, [.int v_th, .ref a_sa, .int v_sz, .int x_260.2.1, .int x_260.2.2, .ref a_ru, .ref a_me, .ref a_le, .int v_n, .ref a_cl, .ref a_te, .ref a_ki, .ref a_ty, .ref a_bl, .ref a_ex, .ref a_lo, .int v_nl, .ref a_ho, .ref a_fi, .int v_nf, .ref a_cz, .int v_nc]))]) [0] (by decide) rfl
                            have hFc := va_free (wc := [(a_m, .inr (5, [.int v_th, .ref a_sa, .int v_sz, .int x_260.2.1, .int x_260.2.2, .ref a_ru, .ref a_me, .ref a_le, .int v_n, .ref a_cl, .ref a_te, .ref a_ki, .ref a_ty, .ref a_bl, .ref a_ex, .ref a_lo, .int v_nl, .ref a_ho, .ref a_fi, .int v_nf, .ref a_cz, .int v_nc]))]) hD hS hA [0] rfl
                            refine va_calli (va_runV (As := [.int x_260.2.1]) (rest := []) ⟨hx, hb, hml, hown, hts⟩ (c_Mg_bad l dC dI adK adV (a_m := a_m) (p0 := x_260.2.1) (v_th := v_th) (a_sa := a_sa) (v_sz := v_sz) (v_at := x_260.2.1) (v_wr := x_260.2.2) (a_ru := a_ru) (a_me := a_me) (a_le := a_le) (v_n := v_n) (a_cl := a_cl) (a_te := a_te) (a_ki := a_ki) (a_ty := a_ty) (a_bl := a_bl) (a_ex := a_ex) (a_lo := a_lo) (v_nl := v_nl) (a_ho := a_ho) (a_fi := a_fi) (v_nf := v_nf) (a_cz := a_cz) (v_nc := v_nc) (sz := H.size)) (cwV 1 hts (gV tw_688 tw_690 tw_28 tw_46 tw_691) rfl rfl rfl (by decide +kernel) ⟨(Nat.le_of_ble_eq_true rfl), (Nat.le_of_ble_eq_true rfl)⟩) ⟨fun a U g mk q => by obtain ⟨q0, q1, qZ, qP, qK, qD⟩ := q; exact ⟨q0, q1, zz_call qZ, qP, va_K.moved (u := U) (U := U.calling g mk a) (Vm.Alike.refl U.vm) qK, qD⟩, va_recv hKc hPc (ci := 5) (q0 := 0) rfl rfl, fun U hU hW => ⟨rfl, by rw [hU], zz_rw hS hFc hU hW hZ, by rw [hU]; exact hPc, va_K.moved hW.alike hKc, hDc.weaken (fun _ _ _ _ => trivial)⟩⟩ rfl rfl hl.1 rfl (lv_room (Nat.le_of_ble_eq_true rfl)) d_M_reads_157 ⟨(Nat.le_of_ble_eq_true rfl), (Nat.le_of_ble_eq_true rfl)⟩) hS (fun q _ h => hFc q h) hFc (fun r_312 u t H1 locs ht hvm hw_313 hB hz1 hk1 hS => ?_)
                            obtain ⟨hP1, hK1, hD1⟩ := hB
                            rw [ht] at hP1
                            have hK1 := va_K.moved hvm.symm hK1
                            obtain rfl : r_312 = 0 := hw_313
                            obtain ⟨hP, hD⟩ := va_join (wr := [(a_sa, .inl (k_sa, 120, .inl f_sa)), (a_ru, .inl (k_ru, 410, .inl R))]) (w1 := [(a_m, .inr (5, [.int v_th, .ref a_sa, .int v_sz, .int x_260.2.1, .int x_260.2.1, .ref a_ru, .ref a_me, .ref a_le, .int v_n, .ref a_cl, .ref a_te, .ref a_ki, .ref a_ty, .ref a_bl, .ref a_ex, .ref a_lo, .int v_nl, .ref a_ho, .ref a_fi, .int v_nf, .ref a_cz, .int v_nc]))]) hP hD [0] [1, 2] rfl rfl (by decide) (by decide) hk1 hFc hP1 hD1
                            replace hK := (hK.sub (tys' := [(k_sa, .byte), (k_ru, .int)]) [0, 1] rfl).app hK1
                            generalize H1 = H at hP hS ⊢
                            replace hP := hP.sub (ws' := [(a_m, .inr (5, [.int v_th, .ref a_sa, .int v_sz, .int x_260.2.1, .int x_260.2.1, .ref a_ru, .ref a_me, .ref a_le, .int v_n, .ref a_cl, .ref a_te, .ref a_ki, .ref a_ty, .ref a_bl, .ref a_ex, .ref a_lo, .int v_nl, .ref a_ho, .ref a_fi, .int v_nf, .ref a_cz, .int v_nc])), (a_sa, .inl (k_sa, 120, .inl f_sa)), (a_ru, .inl (k_ru, 410, .inl R))]) [2, 0, 1] rfl
                            replace hD := hD.sub (ws' := [(a_m, .inr (5, [.int v_th, .ref a_sa, .int v_sz, .int x_260.2.1, .int x_260.2.1, .ref a_ru, .ref a_me, .ref a_le, .int v_n, .ref a_cl, .ref a_te, .ref a_ki, .ref a_ty, .ref a_bl, .ref a_ex, .ref a_lo, .int v_nl, .ref a_ho, .ref a_fi, .int v_nf, .ref a_cz, .int v_nc])), (a_sa, .inl (k_sa, 120, .inl f_sa)), (a_ru, .inl (k_ru, 410, .inl R))]) [2, 0, 1] (by decide) rfl
                            replace hK := hK.sub (tys' := [(k_sa, .byte), (k_ru, .int)]) [0, 1] rfl
                            have hP9 := hP.sub (ws' := [(a_m, .inr (5, [.int v_th, .ref a_sa, .int v_sz, .int x_260.2.1, .int x_260.2.1, .ref a_ru, .ref a_me, .ref a_le, .int v_n, .ref a_cl, .ref a_te, .ref a_ki, .ref a_ty, .ref a_bl, .ref a_ex, .ref a_lo, .int v_nl, .ref a_ho, .ref a_fi, .int v_nf, .ref a_cz, .int v_nc])), (a_sa, .inl (k_sa, 120, .inl f_sa)), (a_ru, .inl (k_ru, 410, .inl R))]) [0, 1, 2] rfl
                            have hD9 := hD.sub (ws' := [(a_m, .inr (5, [.int v_th, .ref a_sa, .int v_sz, .int x_260.2.1, .int x_260.2.1, .ref a_ru, .ref a_me, .ref a_le, .int v_n, .ref a_cl, .ref a_te, .ref a_ki, .ref a_ty, .ref a_bl, .ref a_ex, .ref a_lo, .int v_nl, .ref a_ho, .ref a_fi, .int v_nf, .ref a_cz, .int v_nc])), (a_sa, .inl (k_sa, 120, .inl f_sa)), (a_ru, .inl (k_ru, 410, .inl R))]) [0, 1, 2] (by decide) rfl
                            have hK9 := hK.sub (tys' := [(k_sa, .byte), (k_ru, .int)]) [0, 1] rfl
                            exact W.zret (v := 0) hx hb hr rfl (fun t ht hW => ⟨⟨0, (), rfl, by rw [← hz, hE], by rw [ht, ← hz, hE]; exact hP9, va_K.moved hW.alike hK9, by rw [← hz, hE]; exact hD9⟩, hS.F ht⟩) hS.2.2 d_M_reads_160
                          · refine lv_iload_n hx hb d_M_reads_148 rfl (lv_at hl 0 rfl) ?_
                            refine lv_if_ne (tgt := 161) hx hb d_M_reads_149 (by decide) (fun c_314 => ?_) (fun c_314 => ?_)
                            · exact absurd (by decide) c_314
                            · subst hg_rd1
                              dsimp only at hE
                              rw [if_neg (by decide)] at hE
                              rw [if_neg (by decide)] at hE
                              rw [if_pos rfl] at hE
                              refine lv_aload_n hx hb d_M_reads_152 rfl (lv_at hl 3 rfl) ?_
                              refine lv_aload_n hx hb d_M_reads_153 rfl (lv_at hl 3 rfl) ?_
                              refine va_get (D := (dC, dI)) (ci := 5) (v := .int x_260.2.1) (C := "LoanRulesModel") (T := Fz_M) (N := 22) hx hb hts it_M hown hK hP 0 rfl rfl 3 (by decide) (hts _ tw_604) (fun _ h9 => h9) rfl d_M_reads_154 ?_
                              have hPc := hP.sub (ws' := [(a_m, .inr (5, [.int v_th, .ref a_sa, .int v_sz, .int x_260.2.1, .int x_260.2.2, .ref a_ru, .ref a_me, .ref a_le, .int v_n, .ref a_cl, .ref a_te, .ref a_ki, .ref a_ty, .ref a_bl, .ref a_ex, .ref a_lo, .int v_nl, .ref a_ho, .ref a_fi, .int v_nf, .ref a_cz, .int v_nc]))]) [0] rfl
                              have hKc := hK.sub (tys' := []) [] rfl
                              have hDc := hD.sub (ws' := [(a_m, .inr (5, [.int v_th, .ref a_sa, .int v_sz, .int x_260.2.1, .int x_260.2.2, .ref a_ru, .ref a_me, .ref a_le, .int v_n, .ref a_cl, .ref a_te, .ref a_ki, .ref a_ty, .ref a_bl, .ref a_ex, .ref a_lo, .int v_nl, .ref a_ho, .ref a_fi, .int v_nf, .ref a_cz, .int v_nc]))]) [0] (by decide) rfl
                              have hFc := va_free (wc := [(a_m, .inr (5, [.int v_th, .ref a_sa, .int v_sz, .int x_260.2.1, .int x_260.2.2, .ref a_ru, .ref a_me, .ref a_le, .int v_n, .ref a_cl, .ref a_te, .ref a_ki, .ref a_ty, .ref a_bl, .ref a_ex, .ref a_lo, .int v_nl, .ref a_ho, .ref a_fi, .int v_nf, .ref a_cz, .int v_nc]))]) hD hS hA [0] rfl
                              refine va_calli (va_runV (As := [.int x_260.2.1]) (rest := []) ⟨hx, hb, hml, hown, hts⟩ (c_Mg_bad l dC dI adK adV (a_m := a_m) (p0 := x_260.2.1) (v_th := v_th) (a_sa := a_sa) (v_sz := v_sz) (v_at := x_260.2.1) (v_wr := x_260.2.2) (a_ru := a_ru) (a_me := a_me) (a_le := a_le) (v_n := v_n) (a_cl := a_cl) (a_te := a_te) (a_ki := a_ki) (a_ty := a_ty) (a_bl := a_bl) (a_ex := a_ex) (a_lo := a_lo) (v_nl := v_nl) (a_ho := a_ho) (a_fi := a_fi) (v_nf := v_nf) (a_cz := a_cz) (v_nc := v_nc) (sz := H.size)) (cwV 1 hts (gV tw_688 tw_690 tw_28 tw_46 tw_691) rfl rfl rfl (by decide +kernel) ⟨(Nat.le_of_ble_eq_true rfl), (Nat.le_of_ble_eq_true rfl)⟩) ⟨fun a U g mk q => by obtain ⟨q0, q1, qZ, qP, qK, qD⟩ := q; exact ⟨q0, q1, zz_call qZ, qP, va_K.moved (u := U) (U := U.calling g mk a) (Vm.Alike.refl U.vm) qK, qD⟩, va_recv hKc hPc (ci := 5) (q0 := 0) rfl rfl, fun U hU hW => ⟨rfl, by rw [hU], zz_rw hS hFc hU hW hZ, by rw [hU]; exact hPc, va_K.moved hW.alike hKc, hDc.weaken (fun _ _ _ _ => trivial)⟩⟩ rfl rfl hl.1 rfl (lv_room (Nat.le_of_ble_eq_true rfl)) d_M_reads_157 ⟨(Nat.le_of_ble_eq_true rfl), (Nat.le_of_ble_eq_true rfl)⟩) hS (fun q _ h => hFc q h) hFc (fun r_315 u t H1 locs ht hvm hw_316 hB hz1 hk1 hS => ?_)
                              obtain ⟨hP1, hK1, hD1⟩ := hB
                              rw [ht] at hP1
                              have hK1 := va_K.moved hvm.symm hK1
                              obtain rfl : r_315 = 0 := hw_316
                              obtain ⟨hP, hD⟩ := va_join (wr := [(a_sa, .inl (k_sa, 120, .inl f_sa)), (a_ru, .inl (k_ru, 410, .inl R))]) (w1 := [(a_m, .inr (5, [.int v_th, .ref a_sa, .int v_sz, .int x_260.2.1, .int x_260.2.1, .ref a_ru, .ref a_me, .ref a_le, .int v_n, .ref a_cl, .ref a_te, .ref a_ki, .ref a_ty, .ref a_bl, .ref a_ex, .ref a_lo, .int v_nl, .ref a_ho, .ref a_fi, .int v_nf, .ref a_cz, .int v_nc]))]) hP hD [0] [1, 2] rfl rfl (by decide) (by decide) hk1 hFc hP1 hD1
                              replace hK := (hK.sub (tys' := [(k_sa, .byte), (k_ru, .int)]) [0, 1] rfl).app hK1
                              generalize H1 = H at hP hS ⊢
                              replace hP := hP.sub (ws' := [(a_m, .inr (5, [.int v_th, .ref a_sa, .int v_sz, .int x_260.2.1, .int x_260.2.1, .ref a_ru, .ref a_me, .ref a_le, .int v_n, .ref a_cl, .ref a_te, .ref a_ki, .ref a_ty, .ref a_bl, .ref a_ex, .ref a_lo, .int v_nl, .ref a_ho, .ref a_fi, .int v_nf, .ref a_cz, .int v_nc])), (a_sa, .inl (k_sa, 120, .inl f_sa)), (a_ru, .inl (k_ru, 410, .inl R))]) [2, 0, 1] rfl
                              replace hD := hD.sub (ws' := [(a_m, .inr (5, [.int v_th, .ref a_sa, .int v_sz, .int x_260.2.1, .int x_260.2.1, .ref a_ru, .ref a_me, .ref a_le, .int v_n, .ref a_cl, .ref a_te, .ref a_ki, .ref a_ty, .ref a_bl, .ref a_ex, .ref a_lo, .int v_nl, .ref a_ho, .ref a_fi, .int v_nf, .ref a_cz, .int v_nc])), (a_sa, .inl (k_sa, 120, .inl f_sa)), (a_ru, .inl (k_ru, 410, .inl R))]) [2, 0, 1] (by decide) rfl
                              replace hK := hK.sub (tys' := [(k_sa, .byte), (k_ru, .int)]) [0, 1] rfl
                              have hP9 := hP.sub (ws' := [(a_m, .inr (5, [.int v_th, .ref a_sa, .int v_sz, .int x_260.2.1, .int x_260.2.1, .ref a_ru, .ref a_me, .ref a_le, .int v_n, .ref a_cl, .ref a_te, .ref a_ki, .ref a_ty, .ref a_bl, .ref a_ex, .ref a_lo, .int v_nl, .ref a_ho, .ref a_fi, .int v_nf, .ref a_cz, .int v_nc])), (a_sa, .inl (k_sa, 120, .inl f_sa)), (a_ru, .inl (k_ru, 410, .inl R))]) [0, 1, 2] rfl
                              have hD9 := hD.sub (ws' := [(a_m, .inr (5, [.int v_th, .ref a_sa, .int v_sz, .int x_260.2.1, .int x_260.2.1, .ref a_ru, .ref a_me, .ref a_le, .int v_n, .ref a_cl, .ref a_te, .ref a_ki, .ref a_ty, .ref a_bl, .ref a_ex, .ref a_lo, .int v_nl, .ref a_ho, .ref a_fi, .int v_nf, .ref a_cz, .int v_nc])), (a_sa, .inl (k_sa, 120, .inl f_sa)), (a_ru, .inl (k_ru, 410, .inl R))]) [0, 1, 2] (by decide) rfl
                              have hK9 := hK.sub (tys' := [(k_sa, .byte), (k_ru, .int)]) [0, 1] rfl
                              exact W.zret (v := 0) hx hb hr rfl (fun t ht hW => ⟨⟨0, (), rfl, by rw [← hz, hE], by rw [ht, ← hz, hE]; exact hP9, va_K.moved hW.alike hK9, by rw [← hz, hE]; exact hD9⟩, hS.F ht⟩) hS.2.2 d_M_reads_160
                        · rw [if_pos c_310] at hg_rd1
                          refine lv_goto (tgt := 138) hx hb d_M_reads_129 (by decide) ?_
                          refine lv_iconst (v := 1) hx hb d_M_reads_138 (by decide) ?_
                          refine lv_goto (tgt := 143) hx hb d_M_reads_139 (by decide) ?_
                          refine lv_istore_n (lv' := [(3, .int 1), (2, .int (g_Mg_step (g_Mg_word v_sz x_260.2.1 f_sa))), (1, .int la), (0, .ref a_m)]) hx hb d_M_reads_143 rfl hl (by decide) rfl (fun ls hl => ?_)
                          refine lv_iload_n hx hb d_M_reads_144 rfl (lv_at hl 1 rfl) ?_
                          refine lv_if_eq (tgt := 152) hx hb d_M_reads_145 (by decide) (fun c_317 => ?_) (fun c_317 => ?_)
                          · rw [if_pos c_317] at hg_rd1
                            subst hg_rd1
                            dsimp only at hE
                            rw [if_neg (by decide)] at hE
                            rw [if_neg (by decide)] at hE
                            rw [if_pos rfl] at hE
                            refine lv_aload_n hx hb d_M_reads_152 rfl (lv_at hl 3 rfl) ?_
                            refine lv_aload_n hx hb d_M_reads_153 rfl (lv_at hl 3 rfl) ?_
                            refine va_get (D := (dC, dI)) (ci := 5) (v := .int x_260.2.1) (C := "LoanRulesModel") (T := Fz_M) (N := 22) hx hb hts it_M hown hK hP 0 rfl rfl 3 (by decide) (hts _ tw_604) (fun _ h9 => h9) rfl d_M_reads_154 ?_
                            have hPc := hP.sub (ws' := [(a_m, .inr (5, [.int v_th, .ref a_sa, .int v_sz, .int x_260.2.1, .int x_260.2.2, .ref a_ru, .ref a_me, .ref a_le, .int v_n, .ref a_cl, .ref a_te, .ref a_ki, .ref a_ty, .ref a_bl, .ref a_ex, .ref a_lo, .int v_nl, .ref a_ho, .ref a_fi, .int v_nf, .ref a_cz, .int v_nc]))]) [0] rfl
                            have hKc := hK.sub (tys' := []) [] rfl
                            have hDc := hD.sub (ws' := [(a_m, .inr (5, [.int v_th, .ref a_sa, .int v_sz, .int x_260.2.1, .int x_260.2.2, .ref a_ru, .ref a_me, .ref a_le, .int v_n, .ref a_cl, .ref a_te, .ref a_ki, .ref a_ty, .ref a_bl, .ref a_ex, .ref a_lo, .int v_nl, .ref a_ho, .ref a_fi, .int v_nf, .ref a_cz, .int v_nc]))]) [0] (by decide) rfl
                            have hFc := va_free (wc := [(a_m, .inr (5, [.int v_th, .ref a_sa, .int v_sz, .int x_260.2.1, .int x_260.2.2, .ref a_ru, .ref a_me, .ref a_le, .int v_n, .ref a_cl, .ref a_te, .ref a_ki, .ref a_ty, .ref a_bl, .ref a_ex, .ref a_lo, .int v_nl, .ref a_ho, .ref a_fi, .int v_nf, .ref a_cz, .int v_nc]))]) hD hS hA [0] rfl
                            refine va_calli (va_runV (As := [.int x_260.2.1]) (rest := []) ⟨hx, hb, hml, hown, hts⟩ (c_Mg_bad l dC dI adK adV (a_m := a_m) (p0 := x_260.2.1) (v_th := v_th) (a_sa := a_sa) (v_sz := v_sz) (v_at := x_260.2.1) (v_wr := x_260.2.2) (a_ru := a_ru) (a_me := a_me) (a_le := a_le) (v_n := v_n) (a_cl := a_cl) (a_te := a_te) (a_ki := a_ki) (a_ty := a_ty) (a_bl := a_bl) (a_ex := a_ex) (a_lo := a_lo) (v_nl := v_nl) (a_ho := a_ho) (a_fi := a_fi) (v_nf := v_nf) (a_cz := a_cz) (v_nc := v_nc) (sz := H.size)) (cwV 1 hts (gV tw_688 tw_690 tw_28 tw_46 tw_691) rfl rfl rfl (by decide +kernel) ⟨(Nat.le_of_ble_eq_true rfl), (Nat.le_of_ble_eq_true rfl)⟩) ⟨fun a U g mk q => by obtain ⟨q0, q1, qZ, qP, qK, qD⟩ := q; exact ⟨q0, q1, zz_call qZ, qP, va_K.moved (u := U) (U := U.calling g mk a) (Vm.Alike.refl U.vm) qK, qD⟩, va_recv hKc hPc (ci := 5) (q0 := 0) rfl rfl, fun U hU hW => ⟨rfl, by rw [hU], zz_rw hS hFc hU hW hZ, by rw [hU]; exact hPc, va_K.moved hW.alike hKc, hDc.weaken (fun _ _ _ _ => trivial)⟩⟩ rfl rfl hl.1 rfl (lv_room (Nat.le_of_ble_eq_true rfl)) d_M_reads_157 ⟨(Nat.le_of_ble_eq_true rfl), (Nat.le_of_ble_eq_true rfl)⟩) hS (fun q _ h => hFc q h) hFc (fun r_318 u t H1 locs ht hvm hw_319 hB hz1 hk1 hS => ?_)
                            obtain ⟨hP1, hK1, hD1⟩ := hB
                            rw [ht] at hP1
                            have hK1 := va_K.moved hvm.symm hK1
                            obtain rfl : r_318 = 0 := hw_319
                            obtain ⟨hP, hD⟩ := va_join (wr := [(a_sa, .inl (k_sa, 120, .inl f_sa)), (a_ru, .inl (k_ru, 410, .inl R))]) (w1 := [(a_m, .inr (5, [.int v_th, .ref a_sa, .int v_sz, .int x_260.2.1, .int x_260.2.1, .ref a_ru, .ref a_me, .ref a_le, .int v_n, .ref a_cl, .ref a_te, .ref a_ki, .ref a_ty, .ref a_bl, .ref a_ex, .ref a_lo, .int v_nl, .ref a_ho, .ref a_fi, .int v_nf, .ref a_cz, .int v_nc]))]) hP hD [0] [1, 2] rfl rfl (by decide) (by decide) hk1 hFc hP1 hD1
                            replace hK := (hK.sub (tys' := [(k_sa, .byte), (k_ru, .int)]) [0, 1] rfl).app hK1
                            generalize H1 = H at hP hS ⊢
                            replace hP := hP.sub (ws' := [(a_m, .inr (5, [.int v_th, .ref a_sa, .int v_sz, .int x_260.2.1, .int x_260.2.1, .ref a_ru, .ref a_me, .ref a_le, .int v_n, .ref a_cl, .ref a_te, .ref a_ki, .ref a_ty, .ref a_bl, .ref a_ex, .ref a_lo, .int v_nl, .ref a_ho, .ref a_fi, .int v_nf, .ref a_cz, .int v_nc])), (a_sa, .inl (k_sa, 120, .inl f_sa)), (a_ru, .inl (k_ru, 410, .inl R))]) [2, 0, 1] rfl
                            replace hD := hD.sub (ws' := [(a_m, .inr (5, [.int v_th, .ref a_sa, .int v_sz, .int x_260.2.1, .int x_260.2.1, .ref a_ru, .ref a_me, .ref a_le, .int v_n, .ref a_cl, .ref a_te, .ref a_ki, .ref a_ty, .ref a_bl, .ref a_ex, .ref a_lo, .int v_nl, .ref a_ho, .ref a_fi, .int v_nf, .ref a_cz, .int v_nc])), (a_sa, .inl (k_sa, 120, .inl f_sa)), (a_ru, .inl (k_ru, 410, .inl R))]) [2, 0, 1] (by decide) rfl
                            replace hK := hK.sub (tys' := [(k_sa, .byte), (k_ru, .int)]) [0, 1] rfl
                            have hP9 := hP.sub (ws' := [(a_m, .inr (5, [.int v_th, .ref a_sa, .int v_sz, .int x_260.2.1, .int x_260.2.1, .ref a_ru, .ref a_me, .ref a_le, .int v_n, .ref a_cl, .ref a_te, .ref a_ki, .ref a_ty, .ref a_bl, .ref a_ex, .ref a_lo, .int v_nl, .ref a_ho, .ref a_fi, .int v_nf, .ref a_cz, .int v_nc])), (a_sa, .inl (k_sa, 120, .inl f_sa)), (a_ru, .inl (k_ru, 410, .inl R))]) [0, 1, 2] rfl
                            have hD9 := hD.sub (ws' := [(a_m, .inr (5, [.int v_th, .ref a_sa, .int v_sz, .int x_260.2.1, .int x_260.2.1, .ref a_ru, .ref a_me, .ref a_le, .int v_n, .ref a_cl, .ref a_te, .ref a_ki, .ref a_ty, .ref a_bl, .ref a_ex, .ref a_lo, .int v_nl, .ref a_ho, .ref a_fi, .int v_nf, .ref a_cz, .int v_nc])), (a_sa, .inl (k_sa, 120, .inl f_sa)), (a_ru, .inl (k_ru, 410, .inl R))]) [0, 1, 2] (by decide) rfl
                            have hK9 := hK.sub (tys' := [(k_sa, .byte), (k_ru, .int)]) [0, 1] rfl
                            exact W.zret (v := 0) hx hb hr rfl (fun t ht hW => ⟨⟨0, (), rfl, by rw [← hz, hE], by rw [ht, ← hz, hE]; exact hP9, va_K.moved hW.alike hK9, by rw [← hz, hE]; exact hD9⟩, hS.F ht⟩) hS.2.2 d_M_reads_160
                          · rw [if_neg c_317] at hg_rd1
                            refine lv_iload_n hx hb d_M_reads_148 rfl (lv_at hl 0 rfl) ?_
                            refine lv_if_ne (tgt := 161) hx hb d_M_reads_149 (by decide) (fun c_320 => ?_) (fun c_320 => ?_)
                            · refine lv_aload_n hx hb d_M_reads_161 rfl (lv_at hl 3 rfl) ?_
                              have hPc := hP.sub (ws' := [(a_m, .inr (5, [.int v_th, .ref a_sa, .int v_sz, .int x_260.2.1, .int x_260.2.2, .ref a_ru, .ref a_me, .ref a_le, .int v_n, .ref a_cl, .ref a_te, .ref a_ki, .ref a_ty, .ref a_bl, .ref a_ex, .ref a_lo, .int v_nl, .ref a_ho, .ref a_fi, .int v_nf, .ref a_cz, .int v_nc])), (a_sa, .inl (k_sa, 120, .inl f_sa))]) [0, 1] rfl
                              have hKc := hK.sub (tys' := [(k_sa, .byte)]) [0] rfl
                              have hDc := hD.sub (ws' := [(a_m, .inr (5, [.int v_th, .ref a_sa, .int v_sz, .int x_260.2.1, .int x_260.2.2, .ref a_ru, .ref a_me, .ref a_le, .int v_n, .ref a_cl, .ref a_te, .ref a_ki, .ref a_ty, .ref a_bl, .ref a_ex, .ref a_lo, .int v_nl, .ref a_ho, .ref a_fi, .int v_nf, .ref a_cz, .int v_nc])), (a_sa, .inl (k_sa, 120, .inl f_sa))]) [0, 1] (by decide) rfl
                              have hFc := va_free (wc := [(a_m, .inr (5, [.int v_th, .ref a_sa, .int v_sz, .int x_260.2.1, .int x_260.2.2, .ref a_ru, .ref a_me, .ref a_le, .int v_n, .ref a_cl, .ref a_te, .ref a_ki, .ref a_ty, .ref a_bl, .ref a_ex, .ref a_lo, .int v_nl, .ref a_ho, .ref a_fi, .int v_nf, .ref a_cz, .int v_nc])), (a_sa, .inl (k_sa, 120, .inl f_sa))]) hD hS hA [0, 1] rfl
                              refine va_callv (va_runV (As := []) (rest := []) ⟨hx, hb, hml, hown, hts⟩ (c_Mg_pass l dC dI adK adV (a_m := a_m) (v_th := v_th) (a_sa := a_sa) (v_sz := v_sz) (v_at := x_260.2.1) (v_wr := x_260.2.2) (a_ru := a_ru) (a_me := a_me) (a_le := a_le) (v_n := v_n) (a_cl := a_cl) (a_te := a_te) (a_ki := a_ki) (a_ty := a_ty) (a_bl := a_bl) (a_ex := a_ex) (a_lo := a_lo) (v_nl := v_nl) (a_ho := a_ho) (a_fi := a_fi) (v_nf := v_nf) (a_cz := a_cz) (v_nc := v_nc) (k_sa := k_sa) (f_sa := f_sa) (sz := H.size) hsz (hg_x_260 ▸ space_at hsz ha)) (cwV 0 hts (gV tw_712 tw_714 tw_30 tw_46 tw_715) rfl rfl rfl (by decide +kernel) ⟨(Nat.le_of_ble_eq_true rfl), (Nat.le_of_ble_eq_true rfl)⟩) ⟨fun a U g mk q => by obtain ⟨q0, q1, qZ, qP, qK, qD⟩ := q; exact ⟨q0, q1, zz_call qZ, qP, va_K.moved (u := U) (U := U.calling g mk a) (Vm.Alike.refl U.vm) qK, qD⟩, va_recv hKc hPc (ci := 5) (q0 := 0) rfl rfl, fun U hU hW => ⟨rfl, by rw [hU], zz_rw hS hFc hU hW hZ, by rw [hU]; exact hPc, va_K.moved hW.alike hKc, hDc.weaken (fun _ _ _ _ => trivial)⟩⟩ rfl rfl hl.1 rfl (lv_room (Nat.le_of_ble_eq_true rfl)) d_M_reads_162 ⟨(Nat.le_of_ble_eq_true rfl), (Nat.le_of_ble_eq_true rfl)⟩) hS (fun q _ h => hFc q h) hFc (fun u t H1 locs ht hvm hw_321 hB hz1 hk1 hS => ?_)
                              generalize hg_x_322 : g_Mg_pass v_sz x_260.2.1 f_sa = x_322 at hw_321 hB hg_rd1
                              rw [bv_eq] at hg_rd1
                              obtain ⟨hP1, hK1, hD1⟩ := hB
                              rw [ht] at hP1
                              have hK1 := va_K.moved hvm.symm hK1
                              obtain ⟨hP, hD⟩ := va_join (wr := [(a_ru, .inl (k_ru, 410, .inl R))]) (w1 := [(a_m, .inr (5, [.int v_th, .ref a_sa, .int v_sz, .int x_322, .int x_260.2.2, .ref a_ru, .ref a_me, .ref a_le, .int v_n, .ref a_cl, .ref a_te, .ref a_ki, .ref a_ty, .ref a_bl, .ref a_ex, .ref a_lo, .int v_nl, .ref a_ho, .ref a_fi, .int v_nf, .ref a_cz, .int v_nc])), (a_sa, .inl (k_sa, 120, .inl f_sa))]) hP hD [0, 1] [2] rfl rfl (by decide) (by decide) hk1 hFc hP1 hD1
                              replace hK := (hK.sub (tys' := [(k_ru, .int)]) [1] rfl).app hK1
                              generalize H1 = H at hP hS ⊢
                              replace hP := hP.sub (ws' := [(a_m, .inr (5, [.int v_th, .ref a_sa, .int v_sz, .int x_322, .int x_260.2.2, .ref a_ru, .ref a_me, .ref a_le, .int v_n, .ref a_cl, .ref a_te, .ref a_ki, .ref a_ty, .ref a_bl, .ref a_ex, .ref a_lo, .int v_nl, .ref a_ho, .ref a_fi, .int v_nf, .ref a_cz, .int v_nc])), (a_sa, .inl (k_sa, 120, .inl f_sa)), (a_ru, .inl (k_ru, 410, .inl R))]) [1, 2, 0] rfl
                              replace hD := hD.sub (ws' := [(a_m, .inr (5, [.int v_th, .ref a_sa, .int v_sz, .int x_322, .int x_260.2.2, .ref a_ru, .ref a_me, .ref a_le, .int v_n, .ref a_cl, .ref a_te, .ref a_ki, .ref a_ty, .ref a_bl, .ref a_ex, .ref a_lo, .int v_nl, .ref a_ho, .ref a_fi, .int v_nf, .ref a_cz, .int v_nc])), (a_sa, .inl (k_sa, 120, .inl f_sa)), (a_ru, .inl (k_ru, 410, .inl R))]) [1, 2, 0] (by decide) rfl
                              replace hK := hK.sub (tys' := [(k_sa, .byte), (k_ru, .int)]) [1, 0] rfl
                              refine lv_aload_n hx hb d_M_reads_165 rfl (lv_at hl 3 rfl) ?_
                              refine lv_iload_n hx hb d_M_reads_166 rfl (lv_at hl 1 rfl) ?_
                              have hPc := hP.sub (ws' := [(a_m, .inr (5, [.int v_th, .ref a_sa, .int v_sz, .int x_322, .int x_260.2.2, .ref a_ru, .ref a_me, .ref a_le, .int v_n, .ref a_cl, .ref a_te, .ref a_ki, .ref a_ty, .ref a_bl, .ref a_ex, .ref a_lo, .int v_nl, .ref a_ho, .ref a_fi, .int v_nf, .ref a_cz, .int v_nc])), (a_sa, .inl (k_sa, 120, .inl f_sa)), (a_ru, .inl (k_ru, 410, .inl R))]) [0, 1, 2] rfl
                              have hKc := hK.sub (tys' := [(k_sa, .byte), (k_ru, .int)]) [0, 1] rfl
                              have hDc := hD.sub (ws' := [(a_m, .inr (5, [.int v_th, .ref a_sa, .int v_sz, .int x_322, .int x_260.2.2, .ref a_ru, .ref a_me, .ref a_le, .int v_n, .ref a_cl, .ref a_te, .ref a_ki, .ref a_ty, .ref a_bl, .ref a_ex, .ref a_lo, .int v_nl, .ref a_ho, .ref a_fi, .int v_nf, .ref a_cz, .int v_nc])), (a_sa, .inl (k_sa, 120, .inl f_sa)), (a_ru, .inl (k_ru, 410, .inl R))]) [0, 1, 2] (by decide) rfl
                              have hFc := va_free (wc := [(a_m, .inr (5, [.int v_th, .ref a_sa, .int v_sz, .int x_322, .int x_260.2.2, .ref a_ru, .ref a_me, .ref a_le, .int v_n, .ref a_cl, .ref a_te, .ref a_ki, .ref a_ty, .ref a_bl, .ref a_ex, .ref a_lo, .int v_nl, .ref a_ho, .ref a_fi, .int v_nf, .ref a_cz, .int v_nc])), (a_sa, .inl (k_sa, 120, .inl f_sa)), (a_ru, .inl (k_ru, 410, .inl R))]) hD hS hA [0, 1, 2] rfl
                              refine va_calli (va_runV (As := [.int (g_Mg_step (g_Mg_word v_sz x_260.2.1 f_sa))]) (rest := []) ⟨hx, hb, hml, hown, hts⟩ (c_Mg_one l dC dI adK adV (a_m := a_m) (p0 := g_Mg_step (g_Mg_word v_sz x_260.2.1 f_sa)) (v_th := v_th) (a_sa := a_sa) (v_sz := v_sz) (v_at := x_322) (v_wr := x_260.2.2) (a_ru := a_ru) (a_me := a_me) (a_le := a_le) (v_n := v_n) (a_cl := a_cl) (a_te := a_te) (a_ki := a_ki) (a_ty := a_ty) (a_bl := a_bl) (a_ex := a_ex) (a_lo := a_lo) (v_nl := v_nl) (a_ho := a_ho) (a_fi := a_fi) (v_nf := v_nf) (a_cz := a_cz) (v_nc := v_nc) (k_sa := k_sa) (f_sa := f_sa) (k_ru := k_ru) (f_ru := R) (sz := H.size) hsz (hg_x_322 ▸ pass_at hsz (hg_x_260 ▸ space_at hsz ha)) hn) (cwV 1 hts (gV tw_716 tw_718 tw_31 tw_46 tw_719) rfl rfl rfl (by decide +kernel) ⟨(Nat.le_of_ble_eq_true rfl), (Nat.le_of_ble_eq_true rfl)⟩) ⟨fun a U g mk q => by obtain ⟨q0, q1, qZ, qP, qK, qD⟩ := q; exact ⟨q0, q1, zz_call qZ, qP, va_K.moved (u := U) (U := U.calling g mk a) (Vm.Alike.refl U.vm) qK, qD⟩, va_recv hKc hPc (ci := 5) (q0 := 0) rfl rfl, fun U hU hW => ⟨rfl, by rw [hU], zz_rw hS hFc hU hW hZ, by rw [hU]; exact hPc, va_K.moved hW.alike hKc, hDc.weaken (fun _ _ _ _ => trivial)⟩⟩ rfl rfl hl.1 rfl (lv_room (Nat.le_of_ble_eq_true rfl)) d_M_reads_167 ⟨(Nat.le_of_ble_eq_true rfl), (Nat.le_of_ble_eq_true rfl)⟩) hS (fun q _ h => hFc q h) hFc (fun r_323 u t H1 locs ht hvm hw_324 hB hz1 hk1 hS => ?_)
                              generalize hg_x_325 : g_Mg_one (g_Mg_step (g_Mg_word v_sz x_260.2.1 f_sa)) v_sz x_322 x_260.2.2 v_n f_sa R = x_325 at hw_324 hB hg_rd1
                              rw [bv_eq] at hg_rd1
                              obtain ⟨hP1, hK1, hD1⟩ := hB
                              rw [ht] at hP1
                              have hK1 := va_K.moved hvm.symm hK1
                              obtain rfl : r_323 = x_325.1 := hw_324
                              obtain ⟨hP, hD⟩ := va_join (wr := []) (w1 := [(a_m, .inr (5, [.int v_th, .ref a_sa, .int v_sz, .int x_325.2.1, .int x_325.2.2.1, .ref a_ru, .ref a_me, .ref a_le, .int v_n, .ref a_cl, .ref a_te, .ref a_ki, .ref a_ty, .ref a_bl, .ref a_ex, .ref a_lo, .int v_nl, .ref a_ho, .ref a_fi, .int v_nf, .ref a_cz, .int v_nc])), (a_sa, .inl (k_sa, 120, .inl f_sa)), (a_ru, .inl (k_ru, 410, .inl x_325.2.2.2))]) hP hD [0, 1, 2] [] rfl rfl (by decide) (by decide) hk1 hFc hP1 hD1
                              replace hK := (hK.sub (tys' := []) [] rfl).app hK1
                              generalize H1 = H at hP hS ⊢
                              replace hP := hP.sub (ws' := [(a_m, .inr (5, [.int v_th, .ref a_sa, .int v_sz, .int x_325.2.1, .int x_325.2.2.1, .ref a_ru, .ref a_me, .ref a_le, .int v_n, .ref a_cl, .ref a_te, .ref a_ki, .ref a_ty, .ref a_bl, .ref a_ex, .ref a_lo, .int v_nl, .ref a_ho, .ref a_fi, .int v_nf, .ref a_cz, .int v_nc])), (a_sa, .inl (k_sa, 120, .inl f_sa)), (a_ru, .inl (k_ru, 410, .inl x_325.2.2.2))]) [0, 1, 2] rfl
                              replace hD := hD.sub (ws' := [(a_m, .inr (5, [.int v_th, .ref a_sa, .int v_sz, .int x_325.2.1, .int x_325.2.2.1, .ref a_ru, .ref a_me, .ref a_le, .int v_n, .ref a_cl, .ref a_te, .ref a_ki, .ref a_ty, .ref a_bl, .ref a_ex, .ref a_lo, .int v_nl, .ref a_ho, .ref a_fi, .int v_nf, .ref a_cz, .int v_nc])), (a_sa, .inl (k_sa, 120, .inl f_sa)), (a_ru, .inl (k_ru, 410, .inl x_325.2.2.2))]) [0, 1, 2] (by decide) rfl
                              replace hK := hK.sub (tys' := [(k_sa, .byte), (k_ru, .int)]) [0, 1] rfl
                              refine lv_if_ne (tgt := 175) hx hb d_M_reads_170 (by decide) (fun c_326 => ?_) (fun c_326 => ?_)
                              · rw [if_neg c_326] at hg_rd1
                                refine lv_iload_n hx hb d_M_reads_175 rfl (lv_at hl 1 rfl) ?_
                                refine lv_istore_n (lv' := [(1, .int (g_Mg_step (g_Mg_word v_sz x_260.2.1 f_sa))), (3, .int 1), (2, .int (g_Mg_step (g_Mg_word v_sz x_260.2.1 f_sa))), (0, .ref a_m)]) hx hb d_M_reads_176 rfl hl (by decide) rfl (fun ls hl => ?_)
                                refine lv_goto (tgt := 56) hx hb d_M_reads_177 (by decide) ?_
                                exact ih_rd1 _ _ _ _ _ _ _ ⟨hP, hD, hS, lv_sub hl [0, 3] rfl, ((hg_x_325 ▸ one_at hsz (hg_x_322 ▸ pass_at hsz (hg_x_260 ▸ space_at hsz ha)))), (step_le _), (li_mt hla c_266 (step_le _) hm_rd1), hg_rd1⟩
                              · rw [if_pos c_326] at hg_rd1
                                subst hg_rd1
                                dsimp only at hE
                                rw [if_neg (by decide)] at hE
                                rw [if_neg (by decide)] at hE
                                rw [if_neg (by decide)] at hE
                                refine lv_iconst (v := 0) hx hb d_M_reads_173 (by decide) ?_
                                have hP9 := hP.sub (ws' := [(a_m, .inr (5, [.int v_th, .ref a_sa, .int v_sz, .int x_325.2.1, .int x_325.2.2.1, .ref a_ru, .ref a_me, .ref a_le, .int v_n, .ref a_cl, .ref a_te, .ref a_ki, .ref a_ty, .ref a_bl, .ref a_ex, .ref a_lo, .int v_nl, .ref a_ho, .ref a_fi, .int v_nf, .ref a_cz, .int v_nc])), (a_sa, .inl (k_sa, 120, .inl f_sa)), (a_ru, .inl (k_ru, 410, .inl x_325.2.2.2))]) [0, 1, 2] rfl
                                have hD9 := hD.sub (ws' := [(a_m, .inr (5, [.int v_th, .ref a_sa, .int v_sz, .int x_325.2.1, .int x_325.2.2.1, .ref a_ru, .ref a_me, .ref a_le, .int v_n, .ref a_cl, .ref a_te, .ref a_ki, .ref a_ty, .ref a_bl, .ref a_ex, .ref a_lo, .int v_nl, .ref a_ho, .ref a_fi, .int v_nf, .ref a_cz, .int v_nc])), (a_sa, .inl (k_sa, 120, .inl f_sa)), (a_ru, .inl (k_ru, 410, .inl x_325.2.2.2))]) [0, 1, 2] (by decide) rfl
                                have hK9 := hK.sub (tys' := [(k_sa, .byte), (k_ru, .int)]) [0, 1] rfl
                                exact W.zret (v := 0) hx hb hr rfl (fun t ht hW => ⟨⟨0, (), rfl, by rw [← hz, hE], by rw [ht, ← hz, hE]; exact hP9, va_K.moved hW.alike hK9, by rw [← hz, hE]; exact hD9⟩, hS.F ht⟩) hS.2.2 d_M_reads_174
                            · exact absurd c_320 (by decide)
                  · rw [if_neg c_273] at hg_rd1
                    refine lv_iload_n hx hb d_M_reads_103 rfl (lv_at hl 0 rfl) ?_
                    refine lv_bipush (v := 7) hx hb d_M_reads_104 (by decide) ?_
                    refine lv_icmp_ge (tgt := 142) hx hb d_M_reads_106 (by decide) (fun c_327 => ?_) (fun c_327 => ?_)
                    · rw [if_pos c_327] at hg_rd1
                      refine lv_iconst (v := 0) hx hb d_M_reads_142 (by decide) ?_
                      refine lv_istore_n (lv' := [(3, .int 0), (2, .int (g_Mg_step (g_Mg_word v_sz x_260.2.1 f_sa))), (1, .int la), (0, .ref a_m)]) hx hb d_M_reads_143 rfl hl (by decide) rfl (fun ls hl => ?_)
                      refine lv_iload_n hx hb d_M_reads_144 rfl (lv_at hl 1 rfl) ?_
                      refine lv_if_eq (tgt := 152) hx hb d_M_reads_145 (by decide) (fun c_328 => ?_) (fun c_328 => ?_)
                      · subst hg_rd1
                        dsimp only at hE
                        rw [if_neg (by decide)] at hE
                        rw [if_neg (by decide)] at hE
                        rw [if_pos rfl] at hE
                        refine lv_aload_n hx hb d_M_reads_152 rfl (lv_at hl 3 rfl) ?_
                        refine lv_aload_n hx hb d_M_reads_153 rfl (lv_at hl 3 rfl) ?_
                        refine va_get (D := (dC, dI)) (ci := 5) (v := .int x_260.2.1) (C := "LoanRulesModel") (T := Fz_M) (N := 22) hx hb hts it_M hown hK hP 0 rfl rfl 3 (by decide) (hts _ tw_604) (fun _ h9 => h9) rfl d_M_reads_154 ?_
                        have hPc := hP.sub (ws' := [(a_m, .inr (5, [.int v_th, .ref a_sa, .int v_sz, .int x_260.2.1, .int x_260.2.2, .ref a_ru, .ref a_me, .ref a_le, .int v_n, .ref a_cl, .ref a_te, .ref a_ki, .ref a_ty, .ref a_bl, .ref a_ex, .ref a_lo, .int v_nl, .ref a_ho, .ref a_fi, .int v_nf, .ref a_cz, .int v_nc]))]) [0] rfl
                        have hKc := hK.sub (tys' := []) [] rfl
                        have hDc := hD.sub (ws' := [(a_m, .inr (5, [.int v_th, .ref a_sa, .int v_sz, .int x_260.2.1, .int x_260.2.2, .ref a_ru, .ref a_me, .ref a_le, .int v_n, .ref a_cl, .ref a_te, .ref a_ki, .ref a_ty, .ref a_bl, .ref a_ex, .ref a_lo, .int v_nl, .ref a_ho, .ref a_fi, .int v_nf, .ref a_cz, .int v_nc]))]) [0] (by decide) rfl
                        have hFc := va_free (wc := [(a_m, .inr (5, [.int v_th, .ref a_sa, .int v_sz, .int x_260.2.1, .int x_260.2.2, .ref a_ru, .ref a_me, .ref a_le, .int v_n, .ref a_cl, .ref a_te, .ref a_ki, .ref a_ty, .ref a_bl, .ref a_ex, .ref a_lo, .int v_nl, .ref a_ho, .ref a_fi, .int v_nf, .ref a_cz, .int v_nc]))]) hD hS hA [0] rfl
                        refine va_calli (va_runV (As := [.int x_260.2.1]) (rest := []) ⟨hx, hb, hml, hown, hts⟩ (c_Mg_bad l dC dI adK adV (a_m := a_m) (p0 := x_260.2.1) (v_th := v_th) (a_sa := a_sa) (v_sz := v_sz) (v_at := x_260.2.1) (v_wr := x_260.2.2) (a_ru := a_ru) (a_me := a_me) (a_le := a_le) (v_n := v_n) (a_cl := a_cl) (a_te := a_te) (a_ki := a_ki) (a_ty := a_ty) (a_bl := a_bl) (a_ex := a_ex) (a_lo := a_lo) (v_nl := v_nl) (a_ho := a_ho) (a_fi := a_fi) (v_nf := v_nf) (a_cz := a_cz) (v_nc := v_nc) (sz := H.size)) (cwV 1 hts (gV tw_688 tw_690 tw_28 tw_46 tw_691) rfl rfl rfl (by decide +kernel) ⟨(Nat.le_of_ble_eq_true rfl), (Nat.le_of_ble_eq_true rfl)⟩) ⟨fun a U g mk q => by obtain ⟨q0, q1, qZ, qP, qK, qD⟩ := q; exact ⟨q0, q1, zz_call qZ, qP, va_K.moved (u := U) (U := U.calling g mk a) (Vm.Alike.refl U.vm) qK, qD⟩, va_recv hKc hPc (ci := 5) (q0 := 0) rfl rfl, fun U hU hW => ⟨rfl, by rw [hU], zz_rw hS hFc hU hW hZ, by rw [hU]; exact hPc, va_K.moved hW.alike hKc, hDc.weaken (fun _ _ _ _ => trivial)⟩⟩ rfl rfl hl.1 rfl (lv_room (Nat.le_of_ble_eq_true rfl)) d_M_reads_157 ⟨(Nat.le_of_ble_eq_true rfl), (Nat.le_of_ble_eq_true rfl)⟩) hS (fun q _ h => hFc q h) hFc (fun r_329 u t H1 locs ht hvm hw_330 hB hz1 hk1 hS => ?_)
                        obtain ⟨hP1, hK1, hD1⟩ := hB
                        rw [ht] at hP1
                        have hK1 := va_K.moved hvm.symm hK1
                        obtain rfl : r_329 = 0 := hw_330
                        obtain ⟨hP, hD⟩ := va_join (wr := [(a_sa, .inl (k_sa, 120, .inl f_sa)), (a_ru, .inl (k_ru, 410, .inl R))]) (w1 := [(a_m, .inr (5, [.int v_th, .ref a_sa, .int v_sz, .int x_260.2.1, .int x_260.2.1, .ref a_ru, .ref a_me, .ref a_le, .int v_n, .ref a_cl, .ref a_te, .ref a_ki, .ref a_ty, .ref a_bl, .ref a_ex, .ref a_lo, .int v_nl, .ref a_ho, .ref a_fi, .int v_nf, .ref a_cz, .int v_nc]))]) hP hD [0] [1, 2] rfl rfl (by decide) (by decide) hk1 hFc hP1 hD1
                        replace hK := (hK.sub (tys' := [(k_sa, .byte), (k_ru, .int)]) [0, 1] rfl).app hK1
                        generalize H1 = H at hP hS ⊢
                        replace hP := hP.sub (ws' := [(a_m, .inr (5, [.int v_th, .ref a_sa, .int v_sz, .int x_260.2.1, .int x_260.2.1, .ref a_ru, .ref a_me, .ref a_le, .int v_n, .ref a_cl, .ref a_te, .ref a_ki, .ref a_ty, .ref a_bl, .ref a_ex, .ref a_lo, .int v_nl, .ref a_ho, .ref a_fi, .int v_nf, .ref a_cz, .int v_nc])), (a_sa, .inl (k_sa, 120, .inl f_sa)), (a_ru, .inl (k_ru, 410, .inl R))]) [2, 0, 1] rfl
                        replace hD := hD.sub (ws' := [(a_m, .inr (5, [.int v_th, .ref a_sa, .int v_sz, .int x_260.2.1, .int x_260.2.1, .ref a_ru, .ref a_me, .ref a_le, .int v_n, .ref a_cl, .ref a_te, .ref a_ki, .ref a_ty, .ref a_bl, .ref a_ex, .ref a_lo, .int v_nl, .ref a_ho, .ref a_fi, .int v_nf, .ref a_cz, .int v_nc])), (a_sa, .inl (k_sa, 120, .inl f_sa)), (a_ru, .inl (k_ru, 410, .inl R))]) [2, 0, 1] (by decide) rfl
                        replace hK := hK.sub (tys' := [(k_sa, .byte), (k_ru, .int)]) [0, 1] rfl
                        have hP9 := hP.sub (ws' := [(a_m, .inr (5, [.int v_th, .ref a_sa, .int v_sz, .int x_260.2.1, .int x_260.2.1, .ref a_ru, .ref a_me, .ref a_le, .int v_n, .ref a_cl, .ref a_te, .ref a_ki, .ref a_ty, .ref a_bl, .ref a_ex, .ref a_lo, .int v_nl, .ref a_ho, .ref a_fi, .int v_nf, .ref a_cz, .int v_nc])), (a_sa, .inl (k_sa, 120, .inl f_sa)), (a_ru, .inl (k_ru, 410, .inl R))]) [0, 1, 2] rfl
                        have hD9 := hD.sub (ws' := [(a_m, .inr (5, [.int v_th, .ref a_sa, .int v_sz, .int x_260.2.1, .int x_260.2.1, .ref a_ru, .ref a_me, .ref a_le, .int v_n, .ref a_cl, .ref a_te, .ref a_ki, .ref a_ty, .ref a_bl, .ref a_ex, .ref a_lo, .int v_nl, .ref a_ho, .ref a_fi, .int v_nf, .ref a_cz, .int v_nc])), (a_sa, .inl (k_sa, 120, .inl f_sa)), (a_ru, .inl (k_ru, 410, .inl R))]) [0, 1, 2] (by decide) rfl
                        have hK9 := hK.sub (tys' := [(k_sa, .byte), (k_ru, .int)]) [0, 1] rfl
                        exact W.zret (v := 0) hx hb hr rfl (fun t ht hW => ⟨⟨0, (), rfl, by rw [← hz, hE], by rw [ht, ← hz, hE]; exact hP9, va_K.moved hW.alike hK9, by rw [← hz, hE]; exact hD9⟩, hS.F ht⟩) hS.2.2 d_M_reads_160
                      · refine lv_iload_n hx hb d_M_reads_148 rfl (lv_at hl 0 rfl) ?_
                        refine lv_if_ne (tgt := 161) hx hb d_M_reads_149 (by decide) (fun c_331 => ?_) (fun c_331 => ?_)
                        · exact absurd (by decide) c_331
                        · subst hg_rd1
                          dsimp only at hE
                          rw [if_neg (by decide)] at hE
                          rw [if_neg (by decide)] at hE
                          rw [if_pos rfl] at hE
                          refine lv_aload_n hx hb d_M_reads_152 rfl (lv_at hl 3 rfl) ?_
                          refine lv_aload_n hx hb d_M_reads_153 rfl (lv_at hl 3 rfl) ?_
                          refine va_get (D := (dC, dI)) (ci := 5) (v := .int x_260.2.1) (C := "LoanRulesModel") (T := Fz_M) (N := 22) hx hb hts it_M hown hK hP 0 rfl rfl 3 (by decide) (hts _ tw_604) (fun _ h9 => h9) rfl d_M_reads_154 ?_
                          have hPc := hP.sub (ws' := [(a_m, .inr (5, [.int v_th, .ref a_sa, .int v_sz, .int x_260.2.1, .int x_260.2.2, .ref a_ru, .ref a_me, .ref a_le, .int v_n, .ref a_cl, .ref a_te, .ref a_ki, .ref a_ty, .ref a_bl, .ref a_ex, .ref a_lo, .int v_nl, .ref a_ho, .ref a_fi, .int v_nf, .ref a_cz, .int v_nc]))]) [0] rfl
                          have hKc := hK.sub (tys' := []) [] rfl
                          have hDc := hD.sub (ws' := [(a_m, .inr (5, [.int v_th, .ref a_sa, .int v_sz, .int x_260.2.1, .int x_260.2.2, .ref a_ru, .ref a_me, .ref a_le, .int v_n, .ref a_cl, .ref a_te, .ref a_ki, .ref a_ty, .ref a_bl, .ref a_ex, .ref a_lo, .int v_nl, .ref a_ho, .ref a_fi, .int v_nf, .ref a_cz, .int v_nc]))]) [0] (by decide) rfl
                          have hFc := va_free (wc := [(a_m, .inr (5, [.int v_th, .ref a_sa, .int v_sz, .int x_260.2.1, .int x_260.2.2, .ref a_ru, .ref a_me, .ref a_le, .int v_n, .ref a_cl, .ref a_te, .ref a_ki, .ref a_ty, .ref a_bl, .ref a_ex, .ref a_lo, .int v_nl, .ref a_ho, .ref a_fi, .int v_nf, .ref a_cz, .int v_nc]))]) hD hS hA [0] rfl
                          refine va_calli (va_runV (As := [.int x_260.2.1]) (rest := []) ⟨hx, hb, hml, hown, hts⟩ (c_Mg_bad l dC dI adK adV (a_m := a_m) (p0 := x_260.2.1) (v_th := v_th) (a_sa := a_sa) (v_sz := v_sz) (v_at := x_260.2.1) (v_wr := x_260.2.2) (a_ru := a_ru) (a_me := a_me) (a_le := a_le) (v_n := v_n) (a_cl := a_cl) (a_te := a_te) (a_ki := a_ki) (a_ty := a_ty) (a_bl := a_bl) (a_ex := a_ex) (a_lo := a_lo) (v_nl := v_nl) (a_ho := a_ho) (a_fi := a_fi) (v_nf := v_nf) (a_cz := a_cz) (v_nc := v_nc) (sz := H.size)) (cwV 1 hts (gV tw_688 tw_690 tw_28 tw_46 tw_691) rfl rfl rfl (by decide +kernel) ⟨(Nat.le_of_ble_eq_true rfl), (Nat.le_of_ble_eq_true rfl)⟩) ⟨fun a U g mk q => by obtain ⟨q0, q1, qZ, qP, qK, qD⟩ := q; exact ⟨q0, q1, zz_call qZ, qP, va_K.moved (u := U) (U := U.calling g mk a) (Vm.Alike.refl U.vm) qK, qD⟩, va_recv hKc hPc (ci := 5) (q0 := 0) rfl rfl, fun U hU hW => ⟨rfl, by rw [hU], zz_rw hS hFc hU hW hZ, by rw [hU]; exact hPc, va_K.moved hW.alike hKc, hDc.weaken (fun _ _ _ _ => trivial)⟩⟩ rfl rfl hl.1 rfl (lv_room (Nat.le_of_ble_eq_true rfl)) d_M_reads_157 ⟨(Nat.le_of_ble_eq_true rfl), (Nat.le_of_ble_eq_true rfl)⟩) hS (fun q _ h => hFc q h) hFc (fun r_332 u t H1 locs ht hvm hw_333 hB hz1 hk1 hS => ?_)
                          obtain ⟨hP1, hK1, hD1⟩ := hB
                          rw [ht] at hP1
                          have hK1 := va_K.moved hvm.symm hK1
                          obtain rfl : r_332 = 0 := hw_333
                          obtain ⟨hP, hD⟩ := va_join (wr := [(a_sa, .inl (k_sa, 120, .inl f_sa)), (a_ru, .inl (k_ru, 410, .inl R))]) (w1 := [(a_m, .inr (5, [.int v_th, .ref a_sa, .int v_sz, .int x_260.2.1, .int x_260.2.1, .ref a_ru, .ref a_me, .ref a_le, .int v_n, .ref a_cl, .ref a_te, .ref a_ki, .ref a_ty, .ref a_bl, .ref a_ex, .ref a_lo, .int v_nl, .ref a_ho, .ref a_fi, .int v_nf, .ref a_cz, .int v_nc]))]) hP hD [0] [1, 2] rfl rfl (by decide) (by decide) hk1 hFc hP1 hD1
                          replace hK := (hK.sub (tys' := [(k_sa, .byte), (k_ru, .int)]) [0, 1] rfl).app hK1
                          generalize H1 = H at hP hS ⊢
                          replace hP := hP.sub (ws' := [(a_m, .inr (5, [.int v_th, .ref a_sa, .int v_sz, .int x_260.2.1, .int x_260.2.1, .ref a_ru, .ref a_me, .ref a_le, .int v_n, .ref a_cl, .ref a_te, .ref a_ki, .ref a_ty, .ref a_bl, .ref a_ex, .ref a_lo, .int v_nl, .ref a_ho, .ref a_fi, .int v_nf, .ref a_cz, .int v_nc])), (a_sa, .inl (k_sa, 120, .inl f_sa)), (a_ru, .inl (k_ru, 410, .inl R))]) [2, 0, 1] rfl
                          replace hD := hD.sub (ws' := [(a_m, .inr (5, [.int v_th, .ref a_sa, .int v_sz, .int x_260.2.1, .int x_260.2.1, .ref a_ru, .ref a_me, .ref a_le, .int v_n, .ref a_cl, .ref a_te, .ref a_ki, .ref a_ty, .ref a_bl, .ref a_ex, .ref a_lo, .int v_nl, .ref a_ho, .ref a_fi, .int v_nf, .ref a_cz, .int v_nc])), (a_sa, .inl (k_sa, 120, .inl f_sa)), (a_ru, .inl (k_ru, 410, .inl R))]) [2, 0, 1] (by decide) rfl
                          replace hK := hK.sub (tys' := [(k_sa, .byte), (k_ru, .int)]) [0, 1] rfl
                          have hP9 := hP.sub (ws' := [(a_m, .inr (5, [.int v_th, .ref a_sa, .int v_sz, .int x_260.2.1, .int x_260.2.1, .ref a_ru, .ref a_me, .ref a_le, .int v_n, .ref a_cl, .ref a_te, .ref a_ki, .ref a_ty, .ref a_bl, .ref a_ex, .ref a_lo, .int v_nl, .ref a_ho, .ref a_fi, .int v_nf, .ref a_cz, .int v_nc])), (a_sa, .inl (k_sa, 120, .inl f_sa)), (a_ru, .inl (k_ru, 410, .inl R))]) [0, 1, 2] rfl
                          have hD9 := hD.sub (ws' := [(a_m, .inr (5, [.int v_th, .ref a_sa, .int v_sz, .int x_260.2.1, .int x_260.2.1, .ref a_ru, .ref a_me, .ref a_le, .int v_n, .ref a_cl, .ref a_te, .ref a_ki, .ref a_ty, .ref a_bl, .ref a_ex, .ref a_lo, .int v_nl, .ref a_ho, .ref a_fi, .int v_nf, .ref a_cz, .int v_nc])), (a_sa, .inl (k_sa, 120, .inl f_sa)), (a_ru, .inl (k_ru, 410, .inl R))]) [0, 1, 2] (by decide) rfl
                          have hK9 := hK.sub (tys' := [(k_sa, .byte), (k_ru, .int)]) [0, 1] rfl
                          exact W.zret (v := 0) hx hb hr rfl (fun t ht hW => ⟨⟨0, (), rfl, by rw [← hz, hE], by rw [ht, ← hz, hE]; exact hP9, va_K.moved hW.alike hK9, by rw [← hz, hE]; exact hD9⟩, hS.F ht⟩) hS.2.2 d_M_reads_160
                    · rw [if_neg c_327] at hg_rd1
                      refine lv_goto (tgt := 138) hx hb d_M_reads_109 (by decide) ?_
                      refine lv_iconst (v := 1) hx hb d_M_reads_138 (by decide) ?_
                      refine lv_goto (tgt := 143) hx hb d_M_reads_139 (by decide) ?_
                      refine lv_istore_n (lv' := [(3, .int 1), (2, .int (g_Mg_step (g_Mg_word v_sz x_260.2.1 f_sa))), (1, .int la), (0, .ref a_m)]) hx hb d_M_reads_143 rfl hl (by decide) rfl (fun ls hl => ?_)
                      refine lv_iload_n hx hb d_M_reads_144 rfl (lv_at hl 1 rfl) ?_
                      refine lv_if_eq (tgt := 152) hx hb d_M_reads_145 (by decide) (fun c_334 => ?_) (fun c_334 => ?_)
                      · rw [if_pos c_334] at hg_rd1
                        subst hg_rd1
                        dsimp only at hE
                        rw [if_neg (by decide)] at hE
                        rw [if_neg (by decide)] at hE
                        rw [if_pos rfl] at hE
                        refine lv_aload_n hx hb d_M_reads_152 rfl (lv_at hl 3 rfl) ?_
                        refine lv_aload_n hx hb d_M_reads_153 rfl (lv_at hl 3 rfl) ?_
                        refine va_get (D := (dC, dI)) (ci := 5) (v := .int x_260.2.1) (C := "LoanRulesModel") (T := Fz_M) (N := 22) hx hb hts it_M hown hK hP 0 rfl rfl 3 (by decide) (hts _ tw_604) (fun _ h9 => h9) rfl d_M_reads_154 ?_
                        have hPc := hP.sub (ws' := [(a_m, .inr (5, [.int v_th, .ref a_sa, .int v_sz, .int x_260.2.1, .int x_260.2.2, .ref a_ru, .ref a_me, .ref a_le, .int v_n, .ref a_cl, .ref a_te, .ref a_ki, .ref a_ty, .ref a_bl, .ref a_ex, .ref a_lo, .int v_nl, .ref a_ho, .ref a_fi, .int v_nf, .ref a_cz, .int v_nc]))]) [0] rfl
                        have hKc := hK.sub (tys' := []) [] rfl
                        have hDc := hD.sub (ws' := [(a_m, .inr (5, [.int v_th, .ref a_sa, .int v_sz, .int x_260.2.1, .int x_260.2.2, .ref a_ru, .ref a_me, .ref a_le, .int v_n, .ref a_cl, .ref a_te, .ref a_ki, .ref a_ty, .ref a_bl, .ref a_ex, .ref a_lo, .int v_nl, .ref a_ho, .ref a_fi, .int v_nf, .ref a_cz, .int v_nc]))]) [0] (by decide) rfl
                        have hFc := va_free (wc := [(a_m, .inr (5, [.int v_th, .ref a_sa, .int v_sz, .int x_260.2.1, .int x_260.2.2, .ref a_ru, .ref a_me, .ref a_le, .int v_n, .ref a_cl, .ref a_te, .ref a_ki, .ref a_ty, .ref a_bl, .ref a_ex, .ref a_lo, .int v_nl, .ref a_ho, .ref a_fi, .int v_nf, .ref a_cz, .int v_nc]))]) hD hS hA [0] rfl
                        refine va_calli (va_runV (As := [.int x_260.2.1]) (rest := []) ⟨hx, hb, hml, hown, hts⟩ (c_Mg_bad l dC dI adK adV (a_m := a_m) (p0 := x_260.2.1) (v_th := v_th) (a_sa := a_sa) (v_sz := v_sz) (v_at := x_260.2.1) (v_wr := x_260.2.2) (a_ru := a_ru) (a_me := a_me) (a_le := a_le) (v_n := v_n) (a_cl := a_cl) (a_te := a_te) (a_ki := a_ki) (a_ty := a_ty) (a_bl := a_bl) (a_ex := a_ex) (a_lo := a_lo) (v_nl := v_nl) (a_ho := a_ho) (a_fi := a_fi) (v_nf := v_nf) (a_cz := a_cz) (v_nc := v_nc) (sz := H.size)) (cwV 1 hts (gV tw_688 tw_690 tw_28 tw_46 tw_691) rfl rfl rfl (by decide +kernel) ⟨(Nat.le_of_ble_eq_true rfl), (Nat.le_of_ble_eq_true rfl)⟩) ⟨fun a U g mk q => by obtain ⟨q0, q1, qZ, qP, qK, qD⟩ := q; exact ⟨q0, q1, zz_call qZ, qP, va_K.moved (u := U) (U := U.calling g mk a) (Vm.Alike.refl U.vm) qK, qD⟩, va_recv hKc hPc (ci := 5) (q0 := 0) rfl rfl, fun U hU hW => ⟨rfl, by rw [hU], zz_rw hS hFc hU hW hZ, by rw [hU]; exact hPc, va_K.moved hW.alike hKc, hDc.weaken (fun _ _ _ _ => trivial)⟩⟩ rfl rfl hl.1 rfl (lv_room (Nat.le_of_ble_eq_true rfl)) d_M_reads_157 ⟨(Nat.le_of_ble_eq_true rfl), (Nat.le_of_ble_eq_true rfl)⟩) hS (fun q _ h => hFc q h) hFc (fun r_335 u t H1 locs ht hvm hw_336 hB hz1 hk1 hS => ?_)
                        obtain ⟨hP1, hK1, hD1⟩ := hB
                        rw [ht] at hP1
                        have hK1 := va_K.moved hvm.symm hK1
                        obtain rfl : r_335 = 0 := hw_336
                        obtain ⟨hP, hD⟩ := va_join (wr := [(a_sa, .inl (k_sa, 120, .inl f_sa)), (a_ru, .inl (k_ru, 410, .inl R))]) (w1 := [(a_m, .inr (5, [.int v_th, .ref a_sa, .int v_sz, .int x_260.2.1, .int x_260.2.1, .ref a_ru, .ref a_me, .ref a_le, .int v_n, .ref a_cl, .ref a_te, .ref a_ki, .ref a_ty, .ref a_bl, .ref a_ex, .ref a_lo, .int v_nl, .ref a_ho, .ref a_fi, .int v_nf, .ref a_cz, .int v_nc]))]) hP hD [0] [1, 2] rfl rfl (by decide) (by decide) hk1 hFc hP1 hD1
                        replace hK := (hK.sub (tys' := [(k_sa, .byte), (k_ru, .int)]) [0, 1] rfl).app hK1
                        generalize H1 = H at hP hS ⊢
                        replace hP := hP.sub (ws' := [(a_m, .inr (5, [.int v_th, .ref a_sa, .int v_sz, .int x_260.2.1, .int x_260.2.1, .ref a_ru, .ref a_me, .ref a_le, .int v_n, .ref a_cl, .ref a_te, .ref a_ki, .ref a_ty, .ref a_bl, .ref a_ex, .ref a_lo, .int v_nl, .ref a_ho, .ref a_fi, .int v_nf, .ref a_cz, .int v_nc])), (a_sa, .inl (k_sa, 120, .inl f_sa)), (a_ru, .inl (k_ru, 410, .inl R))]) [2, 0, 1] rfl
                        replace hD := hD.sub (ws' := [(a_m, .inr (5, [.int v_th, .ref a_sa, .int v_sz, .int x_260.2.1, .int x_260.2.1, .ref a_ru, .ref a_me, .ref a_le, .int v_n, .ref a_cl, .ref a_te, .ref a_ki, .ref a_ty, .ref a_bl, .ref a_ex, .ref a_lo, .int v_nl, .ref a_ho, .ref a_fi, .int v_nf, .ref a_cz, .int v_nc])), (a_sa, .inl (k_sa, 120, .inl f_sa)), (a_ru, .inl (k_ru, 410, .inl R))]) [2, 0, 1] (by decide) rfl
                        replace hK := hK.sub (tys' := [(k_sa, .byte), (k_ru, .int)]) [0, 1] rfl
                        have hP9 := hP.sub (ws' := [(a_m, .inr (5, [.int v_th, .ref a_sa, .int v_sz, .int x_260.2.1, .int x_260.2.1, .ref a_ru, .ref a_me, .ref a_le, .int v_n, .ref a_cl, .ref a_te, .ref a_ki, .ref a_ty, .ref a_bl, .ref a_ex, .ref a_lo, .int v_nl, .ref a_ho, .ref a_fi, .int v_nf, .ref a_cz, .int v_nc])), (a_sa, .inl (k_sa, 120, .inl f_sa)), (a_ru, .inl (k_ru, 410, .inl R))]) [0, 1, 2] rfl
                        have hD9 := hD.sub (ws' := [(a_m, .inr (5, [.int v_th, .ref a_sa, .int v_sz, .int x_260.2.1, .int x_260.2.1, .ref a_ru, .ref a_me, .ref a_le, .int v_n, .ref a_cl, .ref a_te, .ref a_ki, .ref a_ty, .ref a_bl, .ref a_ex, .ref a_lo, .int v_nl, .ref a_ho, .ref a_fi, .int v_nf, .ref a_cz, .int v_nc])), (a_sa, .inl (k_sa, 120, .inl f_sa)), (a_ru, .inl (k_ru, 410, .inl R))]) [0, 1, 2] (by decide) rfl
                        have hK9 := hK.sub (tys' := [(k_sa, .byte), (k_ru, .int)]) [0, 1] rfl
                        exact W.zret (v := 0) hx hb hr rfl (fun t ht hW => ⟨⟨0, (), rfl, by rw [← hz, hE], by rw [ht, ← hz, hE]; exact hP9, va_K.moved hW.alike hK9, by rw [← hz, hE]; exact hD9⟩, hS.F ht⟩) hS.2.2 d_M_reads_160
                      · rw [if_neg c_334] at hg_rd1
                        refine lv_iload_n hx hb d_M_reads_148 rfl (lv_at hl 0 rfl) ?_
                        refine lv_if_ne (tgt := 161) hx hb d_M_reads_149 (by decide) (fun c_337 => ?_) (fun c_337 => ?_)
                        · refine lv_aload_n hx hb d_M_reads_161 rfl (lv_at hl 3 rfl) ?_
                          have hPc := hP.sub (ws' := [(a_m, .inr (5, [.int v_th, .ref a_sa, .int v_sz, .int x_260.2.1, .int x_260.2.2, .ref a_ru, .ref a_me, .ref a_le, .int v_n, .ref a_cl, .ref a_te, .ref a_ki, .ref a_ty, .ref a_bl, .ref a_ex, .ref a_lo, .int v_nl, .ref a_ho, .ref a_fi, .int v_nf, .ref a_cz, .int v_nc])), (a_sa, .inl (k_sa, 120, .inl f_sa))]) [0, 1] rfl
                          have hKc := hK.sub (tys' := [(k_sa, .byte)]) [0] rfl
                          have hDc := hD.sub (ws' := [(a_m, .inr (5, [.int v_th, .ref a_sa, .int v_sz, .int x_260.2.1, .int x_260.2.2, .ref a_ru, .ref a_me, .ref a_le, .int v_n, .ref a_cl, .ref a_te, .ref a_ki, .ref a_ty, .ref a_bl, .ref a_ex, .ref a_lo, .int v_nl, .ref a_ho, .ref a_fi, .int v_nf, .ref a_cz, .int v_nc])), (a_sa, .inl (k_sa, 120, .inl f_sa))]) [0, 1] (by decide) rfl
                          have hFc := va_free (wc := [(a_m, .inr (5, [.int v_th, .ref a_sa, .int v_sz, .int x_260.2.1, .int x_260.2.2, .ref a_ru, .ref a_me, .ref a_le, .int v_n, .ref a_cl, .ref a_te, .ref a_ki, .ref a_ty, .ref a_bl, .ref a_ex, .ref a_lo, .int v_nl, .ref a_ho, .ref a_fi, .int v_nf, .ref a_cz, .int v_nc])), (a_sa, .inl (k_sa, 120, .inl f_sa))]) hD hS hA [0, 1] rfl
                          refine va_callv (va_runV (As := []) (rest := []) ⟨hx, hb, hml, hown, hts⟩ (c_Mg_pass l dC dI adK adV (a_m := a_m) (v_th := v_th) (a_sa := a_sa) (v_sz := v_sz) (v_at := x_260.2.1) (v_wr := x_260.2.2) (a_ru := a_ru) (a_me := a_me) (a_le := a_le) (v_n := v_n) (a_cl := a_cl) (a_te := a_te) (a_ki := a_ki) (a_ty := a_ty) (a_bl := a_bl) (a_ex := a_ex) (a_lo := a_lo) (v_nl := v_nl) (a_ho := a_ho) (a_fi := a_fi) (v_nf := v_nf) (a_cz := a_cz) (v_nc := v_nc) (k_sa := k_sa) (f_sa := f_sa) (sz := H.size) hsz (hg_x_260 ▸ space_at hsz ha)) (cwV 0 hts (gV tw_712 tw_714 tw_30 tw_46 tw_715) rfl rfl rfl (by decide +kernel) ⟨(Nat.le_of_ble_eq_true rfl), (Nat.le_of_ble_eq_true rfl)⟩) ⟨fun a U g mk q => by obtain ⟨q0, q1, qZ, qP, qK, qD⟩ := q; exact ⟨q0, q1, zz_call qZ, qP, va_K.moved (u := U) (U := U.calling g mk a) (Vm.Alike.refl U.vm) qK, qD⟩, va_recv hKc hPc (ci := 5) (q0 := 0) rfl rfl, fun U hU hW => ⟨rfl, by rw [hU], zz_rw hS hFc hU hW hZ, by rw [hU]; exact hPc, va_K.moved hW.alike hKc, hDc.weaken (fun _ _ _ _ => trivial)⟩⟩ rfl rfl hl.1 rfl (lv_room (Nat.le_of_ble_eq_true rfl)) d_M_reads_162 ⟨(Nat.le_of_ble_eq_true rfl), (Nat.le_of_ble_eq_true rfl)⟩) hS (fun q _ h => hFc q h) hFc (fun u t H1 locs ht hvm hw_338 hB hz1 hk1 hS => ?_)
                          generalize hg_x_339 : g_Mg_pass v_sz x_260.2.1 f_sa = x_339 at hw_338 hB hg_rd1
                          rw [bv_eq] at hg_rd1
                          obtain ⟨hP1, hK1, hD1⟩ := hB
                          rw [ht] at hP1
                          have hK1 := va_K.moved hvm.symm hK1
                          obtain ⟨hP, hD⟩ := va_join (wr := [(a_ru, .inl (k_ru, 410, .inl R))]) (w1 := [(a_m, .inr (5, [.int v_th, .ref a_sa, .int v_sz, .int x_339, .int x_260.2.2, .ref a_ru, .ref a_me, .ref a_le, .int v_n, .ref a_cl, .ref a_te, .ref a_ki, .ref a_ty, .ref a_bl, .ref a_ex, .ref a_lo, .int v_nl, .ref a_ho, .ref a_fi, .int v_nf, .ref a_cz, .int v_nc])), (a_sa, .inl (k_sa, 120, .inl f_sa))]) hP hD [0, 1] [2] rfl rfl (by decide) (by decide) hk1 hFc hP1 hD1
                          replace hK := (hK.sub (tys' := [(k_ru, .int)]) [1] rfl).app hK1
                          generalize H1 = H at hP hS ⊢
                          replace hP := hP.sub (ws' := [(a_m, .inr (5, [.int v_th, .ref a_sa, .int v_sz, .int x_339, .int x_260.2.2, .ref a_ru, .ref a_me, .ref a_le, .int v_n, .ref a_cl, .ref a_te, .ref a_ki, .ref a_ty, .ref a_bl, .ref a_ex, .ref a_lo, .int v_nl, .ref a_ho, .ref a_fi, .int v_nf, .ref a_cz, .int v_nc])), (a_sa, .inl (k_sa, 120, .inl f_sa)), (a_ru, .inl (k_ru, 410, .inl R))]) [1, 2, 0] rfl
                          replace hD := hD.sub (ws' := [(a_m, .inr (5, [.int v_th, .ref a_sa, .int v_sz, .int x_339, .int x_260.2.2, .ref a_ru, .ref a_me, .ref a_le, .int v_n, .ref a_cl, .ref a_te, .ref a_ki, .ref a_ty, .ref a_bl, .ref a_ex, .ref a_lo, .int v_nl, .ref a_ho, .ref a_fi, .int v_nf, .ref a_cz, .int v_nc])), (a_sa, .inl (k_sa, 120, .inl f_sa)), (a_ru, .inl (k_ru, 410, .inl R))]) [1, 2, 0] (by decide) rfl
                          replace hK := hK.sub (tys' := [(k_sa, .byte), (k_ru, .int)]) [1, 0] rfl
                          refine lv_aload_n hx hb d_M_reads_165 rfl (lv_at hl 3 rfl) ?_
                          refine lv_iload_n hx hb d_M_reads_166 rfl (lv_at hl 1 rfl) ?_
                          have hPc := hP.sub (ws' := [(a_m, .inr (5, [.int v_th, .ref a_sa, .int v_sz, .int x_339, .int x_260.2.2, .ref a_ru, .ref a_me, .ref a_le, .int v_n, .ref a_cl, .ref a_te, .ref a_ki, .ref a_ty, .ref a_bl, .ref a_ex, .ref a_lo, .int v_nl, .ref a_ho, .ref a_fi, .int v_nf, .ref a_cz, .int v_nc])), (a_sa, .inl (k_sa, 120, .inl f_sa)), (a_ru, .inl (k_ru, 410, .inl R))]) [0, 1, 2] rfl
                          have hKc := hK.sub (tys' := [(k_sa, .byte), (k_ru, .int)]) [0, 1] rfl
                          have hDc := hD.sub (ws' := [(a_m, .inr (5, [.int v_th, .ref a_sa, .int v_sz, .int x_339, .int x_260.2.2, .ref a_ru, .ref a_me, .ref a_le, .int v_n, .ref a_cl, .ref a_te, .ref a_ki, .ref a_ty, .ref a_bl, .ref a_ex, .ref a_lo, .int v_nl, .ref a_ho, .ref a_fi, .int v_nf, .ref a_cz, .int v_nc])), (a_sa, .inl (k_sa, 120, .inl f_sa)), (a_ru, .inl (k_ru, 410, .inl R))]) [0, 1, 2] (by decide) rfl
                          have hFc := va_free (wc := [(a_m, .inr (5, [.int v_th, .ref a_sa, .int v_sz, .int x_339, .int x_260.2.2, .ref a_ru, .ref a_me, .ref a_le, .int v_n, .ref a_cl, .ref a_te, .ref a_ki, .ref a_ty, .ref a_bl, .ref a_ex, .ref a_lo, .int v_nl, .ref a_ho, .ref a_fi, .int v_nf, .ref a_cz, .int v_nc])), (a_sa, .inl (k_sa, 120, .inl f_sa)), (a_ru, .inl (k_ru, 410, .inl R))]) hD hS hA [0, 1, 2] rfl
                          refine va_calli (va_runV (As := [.int (g_Mg_step (g_Mg_word v_sz x_260.2.1 f_sa))]) (rest := []) ⟨hx, hb, hml, hown, hts⟩ (c_Mg_one l dC dI adK adV (a_m := a_m) (p0 := g_Mg_step (g_Mg_word v_sz x_260.2.1 f_sa)) (v_th := v_th) (a_sa := a_sa) (v_sz := v_sz) (v_at := x_339) (v_wr := x_260.2.2) (a_ru := a_ru) (a_me := a_me) (a_le := a_le) (v_n := v_n) (a_cl := a_cl) (a_te := a_te) (a_ki := a_ki) (a_ty := a_ty) (a_bl := a_bl) (a_ex := a_ex) (a_lo := a_lo) (v_nl := v_nl) (a_ho := a_ho) (a_fi := a_fi) (v_nf := v_nf) (a_cz := a_cz) (v_nc := v_nc) (k_sa := k_sa) (f_sa := f_sa) (k_ru := k_ru) (f_ru := R) (sz := H.size) hsz (hg_x_339 ▸ pass_at hsz (hg_x_260 ▸ space_at hsz ha)) hn) (cwV 1 hts (gV tw_716 tw_718 tw_31 tw_46 tw_719) rfl rfl rfl (by decide +kernel) ⟨(Nat.le_of_ble_eq_true rfl), (Nat.le_of_ble_eq_true rfl)⟩) ⟨fun a U g mk q => by obtain ⟨q0, q1, qZ, qP, qK, qD⟩ := q; exact ⟨q0, q1, zz_call qZ, qP, va_K.moved (u := U) (U := U.calling g mk a) (Vm.Alike.refl U.vm) qK, qD⟩, va_recv hKc hPc (ci := 5) (q0 := 0) rfl rfl, fun U hU hW => ⟨rfl, by rw [hU], zz_rw hS hFc hU hW hZ, by rw [hU]; exact hPc, va_K.moved hW.alike hKc, hDc.weaken (fun _ _ _ _ => trivial)⟩⟩ rfl rfl hl.1 rfl (lv_room (Nat.le_of_ble_eq_true rfl)) d_M_reads_167 ⟨(Nat.le_of_ble_eq_true rfl), (Nat.le_of_ble_eq_true rfl)⟩) hS (fun q _ h => hFc q h) hFc (fun r_340 u t H1 locs ht hvm hw_341 hB hz1 hk1 hS => ?_)
                          generalize hg_x_342 : g_Mg_one (g_Mg_step (g_Mg_word v_sz x_260.2.1 f_sa)) v_sz x_339 x_260.2.2 v_n f_sa R = x_342 at hw_341 hB hg_rd1
                          rw [bv_eq] at hg_rd1
                          obtain ⟨hP1, hK1, hD1⟩ := hB
                          rw [ht] at hP1
                          have hK1 := va_K.moved hvm.symm hK1
                          obtain rfl : r_340 = x_342.1 := hw_341
                          obtain ⟨hP, hD⟩ := va_join (wr := []) (w1 := [(a_m, .inr (5, [.int v_th, .ref a_sa, .int v_sz, .int x_342.2.1, .int x_342.2.2.1, .ref a_ru, .ref a_me, .ref a_le, .int v_n, .ref a_cl, .ref a_te, .ref a_ki, .ref a_ty, .ref a_bl, .ref a_ex, .ref a_lo, .int v_nl, .ref a_ho, .ref a_fi, .int v_nf, .ref a_cz, .int v_nc])), (a_sa, .inl (k_sa, 120, .inl f_sa)), (a_ru, .inl (k_ru, 410, .inl x_342.2.2.2))]) hP hD [0, 1, 2] [] rfl rfl (by decide) (by decide) hk1 hFc hP1 hD1
                          replace hK := (hK.sub (tys' := []) [] rfl).app hK1
                          generalize H1 = H at hP hS ⊢
                          replace hP := hP.sub (ws' := [(a_m, .inr (5, [.int v_th, .ref a_sa, .int v_sz, .int x_342.2.1, .int x_342.2.2.1, .ref a_ru, .ref a_me, .ref a_le, .int v_n, .ref a_cl, .ref a_te, .ref a_ki, .ref a_ty, .ref a_bl, .ref a_ex, .ref a_lo, .int v_nl, .ref a_ho, .ref a_fi, .int v_nf, .ref a_cz, .int v_nc])), (a_sa, .inl (k_sa, 120, .inl f_sa)), (a_ru, .inl (k_ru, 410, .inl x_342.2.2.2))]) [0, 1, 2] rfl
                          replace hD := hD.sub (ws' := [(a_m, .inr (5, [.int v_th, .ref a_sa, .int v_sz, .int x_342.2.1, .int x_342.2.2.1, .ref a_ru, .ref a_me, .ref a_le, .int v_n, .ref a_cl, .ref a_te, .ref a_ki, .ref a_ty, .ref a_bl, .ref a_ex, .ref a_lo, .int v_nl, .ref a_ho, .ref a_fi, .int v_nf, .ref a_cz, .int v_nc])), (a_sa, .inl (k_sa, 120, .inl f_sa)), (a_ru, .inl (k_ru, 410, .inl x_342.2.2.2))]) [0, 1, 2] (by decide) rfl
                          replace hK := hK.sub (tys' := [(k_sa, .byte), (k_ru, .int)]) [0, 1] rfl
                          refine lv_if_ne (tgt := 175) hx hb d_M_reads_170 (by decide) (fun c_343 => ?_) (fun c_343 => ?_)
                          · rw [if_neg c_343] at hg_rd1
                            refine lv_iload_n hx hb d_M_reads_175 rfl (lv_at hl 1 rfl) ?_
                            refine lv_istore_n (lv' := [(1, .int (g_Mg_step (g_Mg_word v_sz x_260.2.1 f_sa))), (3, .int 1), (2, .int (g_Mg_step (g_Mg_word v_sz x_260.2.1 f_sa))), (0, .ref a_m)]) hx hb d_M_reads_176 rfl hl (by decide) rfl (fun ls hl => ?_)
                            refine lv_goto (tgt := 56) hx hb d_M_reads_177 (by decide) ?_
                            exact ih_rd1 _ _ _ _ _ _ _ ⟨hP, hD, hS, lv_sub hl [0, 3] rfl, ((hg_x_342 ▸ one_at hsz (hg_x_339 ▸ pass_at hsz (hg_x_260 ▸ space_at hsz ha)))), (step_le _), (li_mt hla c_266 (step_le _) hm_rd1), hg_rd1⟩
                          · rw [if_pos c_343] at hg_rd1
                            subst hg_rd1
                            dsimp only at hE
                            rw [if_neg (by decide)] at hE
                            rw [if_neg (by decide)] at hE
                            rw [if_neg (by decide)] at hE
                            refine lv_iconst (v := 0) hx hb d_M_reads_173 (by decide) ?_
                            have hP9 := hP.sub (ws' := [(a_m, .inr (5, [.int v_th, .ref a_sa, .int v_sz, .int x_342.2.1, .int x_342.2.2.1, .ref a_ru, .ref a_me, .ref a_le, .int v_n, .ref a_cl, .ref a_te, .ref a_ki, .ref a_ty, .ref a_bl, .ref a_ex, .ref a_lo, .int v_nl, .ref a_ho, .ref a_fi, .int v_nf, .ref a_cz, .int v_nc])), (a_sa, .inl (k_sa, 120, .inl f_sa)), (a_ru, .inl (k_ru, 410, .inl x_342.2.2.2))]) [0, 1, 2] rfl
                            have hD9 := hD.sub (ws' := [(a_m, .inr (5, [.int v_th, .ref a_sa, .int v_sz, .int x_342.2.1, .int x_342.2.2.1, .ref a_ru, .ref a_me, .ref a_le, .int v_n, .ref a_cl, .ref a_te, .ref a_ki, .ref a_ty, .ref a_bl, .ref a_ex, .ref a_lo, .int v_nl, .ref a_ho, .ref a_fi, .int v_nf, .ref a_cz, .int v_nc])), (a_sa, .inl (k_sa, 120, .inl f_sa)), (a_ru, .inl (k_ru, 410, .inl x_342.2.2.2))]) [0, 1, 2] (by decide) rfl
                            have hK9 := hK.sub (tys' := [(k_sa, .byte), (k_ru, .int)]) [0, 1] rfl
                            exact W.zret (v := 0) hx hb hr rfl (fun t ht hW => ⟨⟨0, (), rfl, by rw [← hz, hE], by rw [ht, ← hz, hE]; exact hP9, va_K.moved hW.alike hK9, by rw [← hz, hE]; exact hD9⟩, hS.F ht⟩) hS.2.2 d_M_reads_174
                        · exact absurd c_337 (by decide)
              · rw [if_pos c_261] at hg_rd1
                subst hg_rd1
                dsimp only at hE
                rw [if_neg (by decide)] at hE
                rw [if_pos rfl] at hE
                refine lv_iconst (v := 0) hx hb d_M_reads_83 (by decide) ?_
                have hP9 := hP.sub (ws' := [(a_m, .inr (5, [.int v_th, .ref a_sa, .int v_sz, .int x_260.2.1, .int x_260.2.2, .ref a_ru, .ref a_me, .ref a_le, .int v_n, .ref a_cl, .ref a_te, .ref a_ki, .ref a_ty, .ref a_bl, .ref a_ex, .ref a_lo, .int v_nl, .ref a_ho, .ref a_fi, .int v_nf, .ref a_cz, .int v_nc])), (a_sa, .inl (k_sa, 120, .inl f_sa)), (a_ru, .inl (k_ru, 410, .inl R))]) [0, 1, 2] rfl
                have hD9 := hD.sub (ws' := [(a_m, .inr (5, [.int v_th, .ref a_sa, .int v_sz, .int x_260.2.1, .int x_260.2.2, .ref a_ru, .ref a_me, .ref a_le, .int v_n, .ref a_cl, .ref a_te, .ref a_ki, .ref a_ty, .ref a_bl, .ref a_ex, .ref a_lo, .int v_nl, .ref a_ho, .ref a_fi, .int v_nf, .ref a_cz, .int v_nc])), (a_sa, .inl (k_sa, 120, .inl f_sa)), (a_ru, .inl (k_ru, 410, .inl R))]) [0, 1, 2] (by decide) rfl
                have hK9 := hK.sub (tys' := [(k_sa, .byte), (k_ru, .int)]) [0, 1] rfl
                exact W.zret (v := 0) hx hb hr rfl (fun t ht hW => ⟨⟨0, (), rfl, by rw [← hz, hE], by rw [ht, ← hz, hE]; exact hP9, va_K.moved hW.alike hK9, by rw [← hz, hE]; exact hD9⟩, hS.F ht⟩) hS.2.2 d_M_reads_84
    · rw [if_neg c_2] at hg_rd0
      refine lv_aload_n hx hb d_M_reads_8 rfl (lv_at hl 1 rfl) ?_
      refine va_get (D := (dC, dI)) (ci := 5) (v := .ref a_ru) (C := "LoanRulesModel") (T := Fz_M) (N := 22) hx hb hts it_M hown hK hP 0 rfl rfl 5 (by decide) (hts _ tw_606) (fun _ h9 => h9) rfl d_M_reads_9 ?_
      refine lv_bipush (v := 10) hx hb d_M_reads_12 (by decide) ?_
      refine lv_aload_n hx hb d_M_reads_14 rfl (lv_at hl 1 rfl) ?_
      refine va_get (D := (dC, dI)) (ci := 5) (v := .int v_n) (C := "LoanRulesModel") (T := Fz_M) (N := 22) hx hb hts it_M hown hK hP 0 rfl rfl 8 (by decide) (hts _ tw_609) (fun _ h9 => h9) rfl d_M_reads_15 ?_
      refine lv_imul hx hb d_M_reads_18 ?_
      refine lv_iload_n hx hb d_M_reads_19 rfl (lv_at hl 0 rfl) ?_
      refine lv_iadd hx hb d_M_reads_20 ?_
      refine lv_iload_n hx hb d_M_reads_21 rfl (lv_at hl 0 rfl) ?_
      refine lv_iconst (v := 3) hx hb d_M_reads_22 (by decide) ?_
      refine lv_icmp_ge (tgt := 30) hx hb d_M_reads_23 (by decide) (fun c_344 => ?_) (fun c_344 => ?_)
      · rw [if_pos c_344] at hg_rd0
        refine lv_iload_n hx hb d_M_reads_30 rfl (lv_at hl 0 rfl) ?_
        refine lv_bipush (v := 7) hx hb d_M_reads_31 (by decide) ?_
        refine lv_icmp_ne (tgt := 41) hx hb d_M_reads_33 (by decide) (fun c_345 => ?_) (fun c_345 => ?_)
        · rw [if_neg c_345] at hg_rd0
          refine lv_iconst (v := 0) hx hb d_M_reads_41 (by decide) ?_
          have i_346 : vp_in ((10 * v_n) + k) 410 := ix10 hn (li_lt10 hk c_2)
          refine va_iast (D := (dC, dI)) hx hb hK hP hD hS 2 1 rfl rfl i_346 d_M_reads_42 (fun H locs hP hD hS => ?_)
          replace hP : va_P (dC, dI) vwCl [(a_m, .inr (5, [.int v_th, .ref a_sa, .int v_sz, .int v_at, .int v_wr, .ref a_ru, .ref a_me, .ref a_le, .int v_n, .ref a_cl, .ref a_te, .ref a_ki, .ref a_ty, .ref a_bl, .ref a_ex, .ref a_lo, .int v_nl, .ref a_ho, .ref a_fi, .int v_nf, .ref a_cz, .int v_nc])), (a_sa, .inl (k_sa, 120, .inl f_sa)), (a_ru, .inl (k_ru, 410, .inl (upd R ((10 * v_n) + k).toNatClampNeg 0)))] H := hP
          replace hD : va_D A [(a_m, .inr (5, [.int v_th, .ref a_sa, .int v_sz, .int v_at, .int v_wr, .ref a_ru, .ref a_me, .ref a_le, .int v_n, .ref a_cl, .ref a_te, .ref a_ki, .ref a_ty, .ref a_bl, .ref a_ex, .ref a_lo, .int v_nl, .ref a_ho, .ref a_fi, .int v_nf, .ref a_cz, .int v_nc])), (a_sa, .inl (k_sa, 120, .inl f_sa)), (a_ru, .inl (k_ru, 410, .inl (upd R ((10 * v_n) + k).toNatClampNeg 0)))] := hD
          refine lv_iinc (v := k + 1) (lv' := [(1, .int (k + 1)), (0, .ref a_m)]) hx hb d_M_reads_43 hl (k := 0) rfl rfl (by decide) rfl (fun ls hl => ?_)
          refine lv_goto (tgt := 2) hx hb d_M_reads_46 (by decide) ?_
          exact ih_rd0 _ _ _ _ _ ⟨hP, hD, hS, lv_sub hl [0, 1] rfl, (li_s10 hk c_2), (li_m10 hk c_2 hm_rd0), hg_rd0⟩
        · rw [if_pos c_345] at hg_rd0
          refine lv_bipush (v := 7) hx hb d_M_reads_36 (by decide) ?_
          refine lv_goto (tgt := 42) hx hb d_M_reads_38 (by decide) ?_
          have i_347 : vp_in ((10 * v_n) + k) 410 := ix10 hn (li_lt10 hk c_2)
          refine va_iast (D := (dC, dI)) hx hb hK hP hD hS 2 1 rfl rfl i_347 d_M_reads_42 (fun H locs hP hD hS => ?_)
          replace hP : va_P (dC, dI) vwCl [(a_m, .inr (5, [.int v_th, .ref a_sa, .int v_sz, .int v_at, .int v_wr, .ref a_ru, .ref a_me, .ref a_le, .int v_n, .ref a_cl, .ref a_te, .ref a_ki, .ref a_ty, .ref a_bl, .ref a_ex, .ref a_lo, .int v_nl, .ref a_ho, .ref a_fi, .int v_nf, .ref a_cz, .int v_nc])), (a_sa, .inl (k_sa, 120, .inl f_sa)), (a_ru, .inl (k_ru, 410, .inl (upd R ((10 * v_n) + k).toNatClampNeg 7)))] H := hP
          replace hD : va_D A [(a_m, .inr (5, [.int v_th, .ref a_sa, .int v_sz, .int v_at, .int v_wr, .ref a_ru, .ref a_me, .ref a_le, .int v_n, .ref a_cl, .ref a_te, .ref a_ki, .ref a_ty, .ref a_bl, .ref a_ex, .ref a_lo, .int v_nl, .ref a_ho, .ref a_fi, .int v_nf, .ref a_cz, .int v_nc])), (a_sa, .inl (k_sa, 120, .inl f_sa)), (a_ru, .inl (k_ru, 410, .inl (upd R ((10 * v_n) + k).toNatClampNeg 7)))] := hD
          refine lv_iinc (v := k + 1) (lv' := [(1, .int (k + 1)), (0, .ref a_m)]) hx hb d_M_reads_43 hl (k := 0) rfl rfl (by decide) rfl (fun ls hl => ?_)
          refine lv_goto (tgt := 2) hx hb d_M_reads_46 (by decide) ?_
          exact ih_rd0 _ _ _ _ _ ⟨hP, hD, hS, lv_sub hl [0, 1] rfl, (li_s10 hk c_2), (li_m10 hk c_2 hm_rd0), hg_rd0⟩
      · rw [if_neg c_344] at hg_rd0
        refine lv_iconst (v := (-1)) hx hb d_M_reads_26 (by decide) ?_
        refine lv_goto (tgt := 42) hx hb d_M_reads_27 (by decide) ?_
        have i_348 : vp_in ((10 * v_n) + k) 410 := ix10 hn (li_lt10 hk c_2)
        refine va_iast (D := (dC, dI)) hx hb hK hP hD hS 2 1 rfl rfl i_348 d_M_reads_42 (fun H locs hP hD hS => ?_)
        replace hP : va_P (dC, dI) vwCl [(a_m, .inr (5, [.int v_th, .ref a_sa, .int v_sz, .int v_at, .int v_wr, .ref a_ru, .ref a_me, .ref a_le, .int v_n, .ref a_cl, .ref a_te, .ref a_ki, .ref a_ty, .ref a_bl, .ref a_ex, .ref a_lo, .int v_nl, .ref a_ho, .ref a_fi, .int v_nf, .ref a_cz, .int v_nc])), (a_sa, .inl (k_sa, 120, .inl f_sa)), (a_ru, .inl (k_ru, 410, .inl (upd R ((10 * v_n) + k).toNatClampNeg (-1))))] H := hP
        replace hD : va_D A [(a_m, .inr (5, [.int v_th, .ref a_sa, .int v_sz, .int v_at, .int v_wr, .ref a_ru, .ref a_me, .ref a_le, .int v_n, .ref a_cl, .ref a_te, .ref a_ki, .ref a_ty, .ref a_bl, .ref a_ex, .ref a_lo, .int v_nl, .ref a_ho, .ref a_fi, .int v_nf, .ref a_cz, .int v_nc])), (a_sa, .inl (k_sa, 120, .inl f_sa)), (a_ru, .inl (k_ru, 410, .inl (upd R ((10 * v_n) + k).toNatClampNeg (-1))))] := hD
        refine lv_iinc (v := k + 1) (lv' := [(1, .int (k + 1)), (0, .ref a_m)]) hx hb d_M_reads_43 hl (k := 0) rfl rfl (by decide) rfl (fun ls hl => ?_)
        refine lv_goto (tgt := 2) hx hb d_M_reads_46 (by decide) ?_
        exact ih_rd0 _ _ _ _ _ ⟨hP, hD, hS, lv_sub hl [0, 1] rfl, (li_s10 hk c_2), (li_m10 hk c_2 hm_rd0), hg_rd0⟩
