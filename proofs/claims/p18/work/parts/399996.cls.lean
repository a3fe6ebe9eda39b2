def c_isO (k : Nat) : Bool := cond (Nat.ble k 17) (cond (Nat.ble k 8) (cond (Nat.ble k 3) (cond (Nat.ble k 1) (cond (Nat.ble k 0) (true) (false)) (cond (Nat.ble k 2) (true) (true))) (cond (Nat.ble k 5) (cond (Nat.ble k 4) (true) (false)) (cond (Nat.ble k 6) (false) (cond (Nat.ble k 7) (true) (true))))) (cond (Nat.ble k 12) (cond (Nat.ble k 10) (cond (Nat.ble k 9) (false) (false)) (cond (Nat.ble k 11) (false) (true))) (cond (Nat.ble k 14) (cond (Nat.ble k 13) (false) (true)) (cond (Nat.ble k 15) (false) (cond (Nat.ble k 16) (false) (false)))))) (cond (Nat.ble k 26) (cond (Nat.ble k 21) (cond (Nat.ble k 19) (cond (Nat.ble k 18) (true) (false)) (cond (Nat.ble k 20) (false) (true))) (cond (Nat.ble k 23) (cond (Nat.ble k 22) (false) (true)) (cond (Nat.ble k 24) (false) (cond (Nat.ble k 25) (false) (true))))) (cond (Nat.ble k 30) (cond (Nat.ble k 28) (cond (Nat.ble k 27) (false) (true)) (cond (Nat.ble k 29) (false) (true))) (cond (Nat.ble k 32) (cond (Nat.ble k 31) (false) (true)) (cond (Nat.ble k 33) (false) (cond (Nat.ble k 34) (false) (false))))))
def c_isR (k : Nat) : Bool := cond (Nat.ble k 17) (cond (Nat.ble k 8) (cond (Nat.ble k 3) (cond (Nat.ble k 1) (cond (Nat.ble k 0) (false) (true)) (cond (Nat.ble k 2) (false) (false))) (cond (Nat.ble k 5) (cond (Nat.ble k 4) (false) (false)) (cond (Nat.ble k 6) (false) (cond (Nat.ble k 7) (false) (false))))) (cond (Nat.ble k 12) (cond (Nat.ble k 10) (cond (Nat.ble k 9) (false) (false)) (cond (Nat.ble k 11) (false) (false))) (cond (Nat.ble k 14) (cond (Nat.ble k 13) (false) (false)) (cond (Nat.ble k 15) (false) (cond (Nat.ble k 16) (false) (false)))))) (cond (Nat.ble k 26) (cond (Nat.ble k 21) (cond (Nat.ble k 19) (cond (Nat.ble k 18) (false) (true)) (cond (Nat.ble k 20) (true) (false))) (cond (Nat.ble k 23) (cond (Nat.ble k 22) (false) (false)) (cond (Nat.ble k 24) (false) (cond (Nat.ble k 25) (true) (false))))) (cond (Nat.ble k 30) (cond (Nat.ble k 28) (cond (Nat.ble k 27) (false) (false)) (cond (Nat.ble k 29) (false) (false))) (cond (Nat.ble k 32) (cond (Nat.ble k 31) (true) (false)) (cond (Nat.ble k 33) (true) (cond (Nat.ble k 34) (false) (false))))))
def c_cls (k : Nat) : Nat := cond (Nat.ble k 17) (cond (Nat.ble k 8) (cond (Nat.ble k 3) (cond (Nat.ble k 1) (cond (Nat.ble k 0) (11) (99)) (cond (Nat.ble k 2) (4) (3))) (cond (Nat.ble k 5) (cond (Nat.ble k 4) (5) (99)) (cond (Nat.ble k 6) (99) (cond (Nat.ble k 7) (0) (10))))) (cond (Nat.ble k 12) (cond (Nat.ble k 10) (cond (Nat.ble k 9) (99) (99)) (cond (Nat.ble k 11) (99) (6))) (cond (Nat.ble k 14) (cond (Nat.ble k 13) (99) (7)) (cond (Nat.ble k 15) (99) (cond (Nat.ble k 16) (99) (99)))))) (cond (Nat.ble k 26) (cond (Nat.ble k 21) (cond (Nat.ble k 19) (cond (Nat.ble k 18) (2) (99)) (cond (Nat.ble k 20) (99) (7))) (cond (Nat.ble k 23) (cond (Nat.ble k 22) (99) (9)) (cond (Nat.ble k 24) (99) (cond (Nat.ble k 25) (99) (6))))) (cond (Nat.ble k 30) (cond (Nat.ble k 28) (cond (Nat.ble k 27) (99) (8)) (cond (Nat.ble k 29) (99) (2))) (cond (Nat.ble k 32) (cond (Nat.ble k 31) (99) (2)) (cond (Nat.ble k 33) (99) (cond (Nat.ble k 34) (99) (99))))))
def c_nf (k : Nat) : Nat := cond (Nat.ble k 17) (cond (Nat.ble k 8) (cond (Nat.ble k 3) (cond (Nat.ble k 1) (cond (Nat.ble k 0) (13) (0)) (cond (Nat.ble k 2) (12) (8))) (cond (Nat.ble k 5) (cond (Nat.ble k 4) (2) (0)) (cond (Nat.ble k 6) (0) (cond (Nat.ble k 7) (11) (7))))) (cond (Nat.ble k 12) (cond (Nat.ble k 10) (cond (Nat.ble k 9) (0) (0)) (cond (Nat.ble k 11) (0) (6))) (cond (Nat.ble k 14) (cond (Nat.ble k 13) (0) (3)) (cond (Nat.ble k 15) (0) (cond (Nat.ble k 16) (0) (0)))))) (cond (Nat.ble k 26) (cond (Nat.ble k 21) (cond (Nat.ble k 19) (cond (Nat.ble k 18) (3) (0)) (cond (Nat.ble k 20) (0) (3))) (cond (Nat.ble k 23) (cond (Nat.ble k 22) (0) (5)) (cond (Nat.ble k 24) (0) (cond (Nat.ble k 25) (0) (6))))) (cond (Nat.ble k 30) (cond (Nat.ble k 28) (cond (Nat.ble k 27) (0) (2)) (cond (Nat.ble k 29) (0) (3))) (cond (Nat.ble k 32) (cond (Nat.ble k 31) (0) (3)) (cond (Nat.ble k 33) (0) (cond (Nat.ble k 34) (0) (0))))))
def c_fk (k p : Nat) : Nat := cond (Nat.ble k 17) (cond (Nat.ble k 8) (cond (Nat.ble k 3) (cond (Nat.ble k 1) (cond (Nat.ble k 0) (cond (Nat.ble p 5) (cond (Nat.ble p 2) (cond (Nat.ble p 0) (1) (cond (Nat.ble p 1) (0) (0))) (cond (Nat.ble p 3) (1) (cond (Nat.ble p 4) (1) (1)))) (cond (Nat.ble p 8) (cond (Nat.ble p 6) (1) (cond (Nat.ble p 7) (1) (0))) (cond (Nat.ble p 10) (cond (Nat.ble p 9) (0) (0)) (cond (Nat.ble p 11) (0) (0))))) (0)) (cond (Nat.ble k 2) (cond (Nat.ble p 5) (cond (Nat.ble p 2) (cond (Nat.ble p 0) (0) (cond (Nat.ble p 1) (1) (1))) (cond (Nat.ble p 3) (1) (cond (Nat.ble p 4) (0) (0)))) (cond (Nat.ble p 8) (cond (Nat.ble p 6) (0) (cond (Nat.ble p 7) (0) (0))) (cond (Nat.ble p 9) (0) (cond (Nat.ble p 10) (0) (0))))) (cond (Nat.ble p 3) (cond (Nat.ble p 1) (cond (Nat.ble p 0) (1) (1)) (cond (Nat.ble p 2) (1) (1))) (cond (Nat.ble p 5) (cond (Nat.ble p 4) (0) (2)) (cond (Nat.ble p 6) (0) (0)))))) (cond (Nat.ble k 5) (cond (Nat.ble k 4) (cond (Nat.ble p 0) (1) (1)) (0)) (cond (Nat.ble k 6) (0) (cond (Nat.ble k 7) (cond (Nat.ble p 4) (cond (Nat.ble p 1) (cond (Nat.ble p 0) (1) (1)) (cond (Nat.ble p 2) (1) (cond (Nat.ble p 3) (1) (0)))) (cond (Nat.ble p 7) (cond (Nat.ble p 5) (0) (cond (Nat.ble p 6) (0) (0))) (cond (Nat.ble p 8) (0) (cond (Nat.ble p 9) (0) (0))))) (cond (Nat.ble p 2) (cond (Nat.ble p 0) (1) (cond (Nat.ble p 1) (1) (1))) (cond (Nat.ble p 4) (cond (Nat.ble p 3) (0) (0)) (cond (Nat.ble p 5) (0) (0)))))))) (cond (Nat.ble k 12) (cond (Nat.ble k 10) (cond (Nat.ble k 9) (0) (0)) (cond (Nat.ble k 11) (0) (cond (Nat.ble p 2) (cond (Nat.ble p 0) (1) (cond (Nat.ble p 1) (0) (0))) (cond (Nat.ble p 3) (0) (cond (Nat.ble p 4) (0) (0)))))) (cond (Nat.ble k 14) (cond (Nat.ble k 13) (0) (cond (Nat.ble p 0) (1) (cond (Nat.ble p 1) (0) (0)))) (cond (Nat.ble k 15) (0) (cond (Nat.ble k 16) (0) (0)))))) (cond (Nat.ble k 26) (cond (Nat.ble k 21) (cond (Nat.ble k 19) (cond (Nat.ble k 18) (cond (Nat.ble p 0) (1) (cond (Nat.ble p 1) (0) (0))) (0)) (cond (Nat.ble k 20) (0) (cond (Nat.ble p 0) (1) (cond (Nat.ble p 1) (0) (0))))) (cond (Nat.ble k 23) (cond (Nat.ble k 22) (0) (cond (Nat.ble p 1) (cond (Nat.ble p 0) (1) (1)) (cond (Nat.ble p 2) (0) (cond (Nat.ble p 3) (0) (0))))) (cond (Nat.ble k 24) (0) (cond (Nat.ble k 25) (0) (cond (Nat.ble p 2) (cond (Nat.ble p 0) (1) (cond (Nat.ble p 1) (0) (0))) (cond (Nat.ble p 3) (0) (cond (Nat.ble p 4) (0) (0)))))))) (cond (Nat.ble k 30) (cond (Nat.ble k 28) (cond (Nat.ble k 27) (0) (cond (Nat.ble p 0) (1) (0))) (cond (Nat.ble k 29) (0) (cond (Nat.ble p 0) (1) (cond (Nat.ble p 1) (0) (0))))) (cond (Nat.ble k 32) (cond (Nat.ble k 31) (0) (cond (Nat.ble p 0) (1) (cond (Nat.ble p 1) (0) (0)))) (cond (Nat.ble k 33) (0) (cond (Nat.ble k 34) (0) (0))))))
def c_F (k p : Nat) : Nat := cond (Nat.ble k 17) (cond (Nat.ble k 8) (cond (Nat.ble k 3) (cond (Nat.ble k 1) (cond (Nat.ble k 0) (cond (Nat.ble p 5) (cond (Nat.ble p 2) (cond (Nat.ble p 0) (0) (cond (Nat.ble p 1) (2) (3))) (cond (Nat.ble p 3) (0) (cond (Nat.ble p 4) (0) (0)))) (cond (Nat.ble p 8) (cond (Nat.ble p 6) (0) (cond (Nat.ble p 7) (0) (5))) (cond (Nat.ble p 10) (cond (Nat.ble p 9) (122) (123)) (cond (Nat.ble p 11) (13) (62))))) (0)) (cond (Nat.ble k 2) (cond (Nat.ble p 5) (cond (Nat.ble p 2) (cond (Nat.ble p 0) (111) (cond (Nat.ble p 1) (0) (0))) (cond (Nat.ble p 3) (0) (cond (Nat.ble p 4) (7) (112)))) (cond (Nat.ble p 8) (cond (Nat.ble p 6) (38) (cond (Nat.ble p 7) (113) (114))) (cond (Nat.ble p 9) (115) (cond (Nat.ble p 10) (116) (10))))) (cond (Nat.ble p 3) (cond (Nat.ble p 1) (cond (Nat.ble p 0) (0) (0)) (cond (Nat.ble p 2) (0) (0))) (cond (Nat.ble p 5) (cond (Nat.ble p 4) (17) (19)) (cond (Nat.ble p 6) (20) (37)))))) (cond (Nat.ble k 5) (cond (Nat.ble k 4) (cond (Nat.ble p 0) (0) (0)) (0)) (cond (Nat.ble k 6) (0) (cond (Nat.ble k 7) (cond (Nat.ble p 4) (cond (Nat.ble p 1) (cond (Nat.ble p 0) (0) (0)) (cond (Nat.ble p 2) (0) (cond (Nat.ble p 3) (0) (21)))) (cond (Nat.ble p 7) (cond (Nat.ble p 5) (22) (cond (Nat.ble p 6) (23) (24))) (cond (Nat.ble p 8) (25) (cond (Nat.ble p 9) (26) (27))))) (cond (Nat.ble p 2) (cond (Nat.ble p 0) (0) (cond (Nat.ble p 1) (0) (0))) (cond (Nat.ble p 4) (cond (Nat.ble p 3) (101) (33)) (cond (Nat.ble p 5) (104) (35)))))))) (cond (Nat.ble k 12) (cond (Nat.ble k 10) (cond (Nat.ble k 9) (0) (0)) (cond (Nat.ble k 11) (0) (cond (Nat.ble p 2) (cond (Nat.ble p 0) (0) (cond (Nat.ble p 1) (28) (29))) (cond (Nat.ble p 3) (30) (cond (Nat.ble p 4) (109) (110)))))) (cond (Nat.ble k 14) (cond (Nat.ble k 13) (0) (cond (Nat.ble p 0) (0) (cond (Nat.ble p 1) (106) (107)))) (cond (Nat.ble k 15) (0) (cond (Nat.ble k 16) (0) (0)))))) (cond (Nat.ble k 26) (cond (Nat.ble k 21) (cond (Nat.ble k 19) (cond (Nat.ble k 18) (cond (Nat.ble p 0) (0) (cond (Nat.ble p 1) (120) (121))) (0)) (cond (Nat.ble k 20) (0) (cond (Nat.ble p 0) (0) (cond (Nat.ble p 1) (117) (118))))) (cond (Nat.ble k 23) (cond (Nat.ble k 22) (0) (cond (Nat.ble p 1) (cond (Nat.ble p 0) (0) (0)) (cond (Nat.ble p 2) (124) (cond (Nat.ble p 3) (125) (14))))) (cond (Nat.ble k 24) (0) (cond (Nat.ble k 25) (0) (cond (Nat.ble p 2) (cond (Nat.ble p 0) (0) (cond (Nat.ble p 1) (126) (127))) (cond (Nat.ble p 3) (128) (cond (Nat.ble p 4) (129) (130)))))))) (cond (Nat.ble k 30) (cond (Nat.ble k 28) (cond (Nat.ble k 27) (0) (cond (Nat.ble p 0) (0) (72))) (cond (Nat.ble k 29) (0) (cond (Nat.ble p 0) (0) (cond (Nat.ble p 1) (132) (133))))) (cond (Nat.ble k 32) (cond (Nat.ble k 31) (0) (cond (Nat.ble p 0) (0) (cond (Nat.ble p 1) (134) (135)))) (cond (Nat.ble k 33) (0) (cond (Nat.ble k 34) (0) (0))))))
def c_rk (k p : Nat) : Nat := cond (Nat.ble k 17) (cond (Nat.ble k 8) (cond (Nat.ble k 3) (cond (Nat.ble k 1) (cond (Nat.ble k 0) (cond (Nat.ble p 5) (cond (Nat.ble p 2) (cond (Nat.ble p 0) (1) (cond (Nat.ble p 1) (0) (0))) (cond (Nat.ble p 3) (34) (cond (Nat.ble p 4) (23) (28)))) (cond (Nat.ble p 8) (cond (Nat.ble p 6) (30) (cond (Nat.ble p 7) (32) (0))) (cond (Nat.ble p 10) (cond (Nat.ble p 9) (0) (0)) (cond (Nat.ble p 11) (0) (0))))) (0)) (cond (Nat.ble k 2) (cond (Nat.ble p 5) (cond (Nat.ble p 2) (cond (Nat.ble p 0) (0) (cond (Nat.ble p 1) (3) (18))) (cond (Nat.ble p 3) (20) (cond (Nat.ble p 4) (0) (0)))) (cond (Nat.ble p 8) (cond (Nat.ble p 6) (0) (cond (Nat.ble p 7) (0) (0))) (cond (Nat.ble p 9) (0) (cond (Nat.ble p 10) (0) (0))))) (cond (Nat.ble p 3) (cond (Nat.ble p 1) (cond (Nat.ble p 0) (4) (7)) (cond (Nat.ble p 2) (16) (17))) (cond (Nat.ble p 5) (cond (Nat.ble p 4) (0) (0)) (cond (Nat.ble p 6) (0) (0)))))) (cond (Nat.ble k 5) (cond (Nat.ble k 4) (cond (Nat.ble p 0) (5) (6)) (0)) (cond (Nat.ble k 6) (0) (cond (Nat.ble k 7) (cond (Nat.ble p 4) (cond (Nat.ble p 1) (cond (Nat.ble p 0) (4) (8)) (cond (Nat.ble p 2) (12) (cond (Nat.ble p 3) (14) (0)))) (cond (Nat.ble p 7) (cond (Nat.ble p 5) (0) (cond (Nat.ble p 6) (0) (0))) (cond (Nat.ble p 8) (0) (cond (Nat.ble p 9) (0) (0))))) (cond (Nat.ble p 2) (cond (Nat.ble p 0) (9) (cond (Nat.ble p 1) (10) (11))) (cond (Nat.ble p 4) (cond (Nat.ble p 3) (0) (0)) (cond (Nat.ble p 5) (0) (0)))))))) (cond (Nat.ble k 12) (cond (Nat.ble k 10) (cond (Nat.ble k 9) (0) (0)) (cond (Nat.ble k 11) (0) (cond (Nat.ble p 2) (cond (Nat.ble p 0) (13) (cond (Nat.ble p 1) (0) (0))) (cond (Nat.ble p 3) (0) (cond (Nat.ble p 4) (0) (0)))))) (cond (Nat.ble k 14) (cond (Nat.ble k 13) (0) (cond (Nat.ble p 0) (15) (cond (Nat.ble p 1) (0) (0)))) (cond (Nat.ble k 15) (0) (cond (Nat.ble k 16) (0) (0)))))) (cond (Nat.ble k 26) (cond (Nat.ble k 21) (cond (Nat.ble k 19) (cond (Nat.ble k 18) (cond (Nat.ble p 0) (19) (cond (Nat.ble p 1) (0) (0))) (0)) (cond (Nat.ble k 20) (0) (cond (Nat.ble p 0) (22) (cond (Nat.ble p 1) (0) (0))))) (cond (Nat.ble k 23) (cond (Nat.ble k 22) (0) (cond (Nat.ble p 1) (cond (Nat.ble p 0) (24) (25)) (cond (Nat.ble p 2) (0) (cond (Nat.ble p 3) (0) (0))))) (cond (Nat.ble k 24) (0) (cond (Nat.ble k 25) (0) (cond (Nat.ble p 2) (cond (Nat.ble p 0) (27) (cond (Nat.ble p 1) (0) (0))) (cond (Nat.ble p 3) (0) (cond (Nat.ble p 4) (0) (0)))))))) (cond (Nat.ble k 30) (cond (Nat.ble k 28) (cond (Nat.ble k 27) (0) (cond (Nat.ble p 0) (29) (0))) (cond (Nat.ble k 29) (0) (cond (Nat.ble p 0) (31) (cond (Nat.ble p 1) (0) (0))))) (cond (Nat.ble k 32) (cond (Nat.ble k 31) (0) (cond (Nat.ble p 0) (33) (cond (Nat.ble p 1) (0) (0)))) (cond (Nat.ble k 33) (0) (cond (Nat.ble k 34) (0) (0))))))
def c_ty (k : Nat) : Nat := cond (Nat.ble k 17) (cond (Nat.ble k 8) (cond (Nat.ble k 3) (cond (Nat.ble k 1) (cond (Nat.ble k 0) (0) (4)) (cond (Nat.ble k 2) (0) (0))) (cond (Nat.ble k 5) (cond (Nat.ble k 4) (0) (1)) (cond (Nat.ble k 6) (2) (cond (Nat.ble k 7) (0) (0))))) (cond (Nat.ble k 12) (cond (Nat.ble k 10) (cond (Nat.ble k 9) (0) (0)) (cond (Nat.ble k 11) (1) (0))) (cond (Nat.ble k 14) (cond (Nat.ble k 13) (1) (0)) (cond (Nat.ble k 15) (1) (cond (Nat.ble k 16) (0) (0)))))) (cond (Nat.ble k 26) (cond (Nat.ble k 21) (cond (Nat.ble k 19) (cond (Nat.ble k 18) (0) (5)) (cond (Nat.ble k 20) (6) (0))) (cond (Nat.ble k 23) (cond (Nat.ble k 22) (1) (0)) (cond (Nat.ble k 24) (1) (cond (Nat.ble k 25) (7) (0))))) (cond (Nat.ble k 30) (cond (Nat.ble k 28) (cond (Nat.ble k 27) (1) (0)) (cond (Nat.ble k 29) (0) (0))) (cond (Nat.ble k 32) (cond (Nat.ble k 31) (5) (0)) (cond (Nat.ble k 33) (5) (cond (Nat.ble k 34) (1) (0))))))
def c_A (k : Nat) : Nat := cond (Nat.ble k 17) (cond (Nat.ble k 8) (cond (Nat.ble k 3) (cond (Nat.ble k 1) (cond (Nat.ble k 0) (999) (999)) (cond (Nat.ble k 2) (999) (999))) (cond (Nat.ble k 5) (cond (Nat.ble k 4) (999) (15)) (cond (Nat.ble k 6) (105) (cond (Nat.ble k 7) (999) (999))))) (cond (Nat.ble k 12) (cond (Nat.ble k 10) (cond (Nat.ble k 9) (100) (102)) (cond (Nat.ble k 11) (103) (999))) (cond (Nat.ble k 14) (cond (Nat.ble k 13) (31) (999)) (cond (Nat.ble k 15) (108) (cond (Nat.ble k 16) (16) (18)))))) (cond (Nat.ble k 26) (cond (Nat.ble k 21) (cond (Nat.ble k 19) (cond (Nat.ble k 18) (999) (999)) (cond (Nat.ble k 20) (999) (999))) (cond (Nat.ble k 23) (cond (Nat.ble k 22) (119) (999)) (cond (Nat.ble k 24) (64) (cond (Nat.ble k 25) (999) (999))))) (cond (Nat.ble k 30) (cond (Nat.ble k 28) (cond (Nat.ble k 27) (131) (999)) (cond (Nat.ble k 29) (73) (999))) (cond (Nat.ble k 32) (cond (Nat.ble k 31) (999) (999)) (cond (Nat.ble k 33) (999) (cond (Nat.ble k 34) (6) (999))))))
def c_st (k : Nat) : Nat := cond (Nat.ble k 17) (cond (Nat.ble k 8) (cond (Nat.ble k 3) (cond (Nat.ble k 1) (cond (Nat.ble k 0) (1) (1)) (cond (Nat.ble k 2) (1) (1))) (cond (Nat.ble k 5) (cond (Nat.ble k 4) (1) (4096)) (cond (Nat.ble k 6) (16) (cond (Nat.ble k 7) (1) (1))))) (cond (Nat.ble k 12) (cond (Nat.ble k 10) (cond (Nat.ble k 9) (16) (4)) (cond (Nat.ble k 11) (128) (1))) (cond (Nat.ble k 14) (cond (Nat.ble k 13) (64) (1)) (cond (Nat.ble k 15) (32) (cond (Nat.ble k 16) (32) (7)))))) (cond (Nat.ble k 26) (cond (Nat.ble k 21) (cond (Nat.ble k 19) (cond (Nat.ble k 18) (1) (1)) (cond (Nat.ble k 20) (1) (1))) (cond (Nat.ble k 23) (cond (Nat.ble k 22) (32) (1)) (cond (Nat.ble k 24) (512) (cond (Nat.ble k 25) (1) (1))))) (cond (Nat.ble k 30) (cond (Nat.ble k 28) (cond (Nat.ble k 27) (64) (1)) (cond (Nat.ble k 29) (4096) (1))) (cond (Nat.ble k 32) (cond (Nat.ble k 31) (1) (1)) (cond (Nat.ble k 33) (1) (cond (Nat.ble k 34) (4096) (1))))))
def c_len (n pg rm k : Nat) : Nat := cond (Nat.ble k 17) (cond (Nat.ble k 8) (cond (Nat.ble k 3) (cond (Nat.ble k 1) (cond (Nat.ble k 0) (0) (n)) (cond (Nat.ble k 2) (0) (0))) (cond (Nat.ble k 5) (cond (Nat.ble k 4) (0) (256 * pg)) (cond (Nat.ble k 6) (pg) (cond (Nat.ble k 7) (0) (0))))) (cond (Nat.ble k 12) (cond (Nat.ble k 10) (cond (Nat.ble k 9) (16) (4)) (cond (Nat.ble k 11) (128) (0))) (cond (Nat.ble k 14) (cond (Nat.ble k 13) (64) (0)) (cond (Nat.ble k 15) (32) (cond (Nat.ble k 16) (32) (7)))))) (cond (Nat.ble k 26) (cond (Nat.ble k 21) (cond (Nat.ble k 19) (cond (Nat.ble k 18) (0) (512)) (cond (Nat.ble k 20) (64) (0))) (cond (Nat.ble k 23) (cond (Nat.ble k 22) (32) (0)) (cond (Nat.ble k 24) (512) (cond (Nat.ble k 25) (128) (0))))) (cond (Nat.ble k 30) (cond (Nat.ble k 28) (cond (Nat.ble k 27) (64) (0)) (cond (Nat.ble k 29) (4096) (0))) (cond (Nat.ble k 32) (cond (Nat.ble k 31) (rm) (0)) (cond (Nat.ble k 33) (rm) (cond (Nat.ble k 34) (256 * pg) (0))))))
def c_cnt (n k : Nat) : Nat := cond (Nat.ble k 17) (cond (Nat.ble k 8) (cond (Nat.ble k 3) (cond (Nat.ble k 1) (cond (Nat.ble k 0) (1) (1)) (cond (Nat.ble k 2) (n) (n))) (cond (Nat.ble k 5) (cond (Nat.ble k 4) (n) (n)) (cond (Nat.ble k 6) (n) (cond (Nat.ble k 7) (n) (n))))) (cond (Nat.ble k 12) (cond (Nat.ble k 10) (cond (Nat.ble k 9) (n) (n)) (cond (Nat.ble k 11) (n) (n))) (cond (Nat.ble k 14) (cond (Nat.ble k 13) (n) (n)) (cond (Nat.ble k 15) (n) (cond (Nat.ble k 16) (n) (n)))))) (cond (Nat.ble k 26) (cond (Nat.ble k 21) (cond (Nat.ble k 19) (cond (Nat.ble k 18) (n) (n)) (cond (Nat.ble k 20) (n) (64 * n))) (cond (Nat.ble k 23) (cond (Nat.ble k 22) (64 * n) (1)) (cond (Nat.ble k 24) (1) (cond (Nat.ble k 25) (1) (128))))) (cond (Nat.ble k 30) (cond (Nat.ble k 28) (cond (Nat.ble k 27) (128) (1)) (cond (Nat.ble k 29) (1) (1))) (cond (Nat.ble k 32) (cond (Nat.ble k 31) (1) (1)) (cond (Nat.ble k 33) (1) (cond (Nat.ble k 34) (1) (0))))))
def c_ow (f : Nat) : Nat := cond (Nat.ble f 67) (cond (Nat.ble f 33) (cond (Nat.ble f 16) (cond (Nat.ble f 7) (cond (Nat.ble f 3) (cond (Nat.ble f 1) (cond (Nat.ble f 0) (99) (99)) (cond (Nat.ble f 2) (0) (0))) (cond (Nat.ble f 5) (cond (Nat.ble f 4) (99) (0)) (cond (Nat.ble f 6) (34) (2)))) (cond (Nat.ble f 11) (cond (Nat.ble f 9) (cond (Nat.ble f 8) (99) (99)) (cond (Nat.ble f 10) (2) (99))) (cond (Nat.ble f 13) (cond (Nat.ble f 12) (99) (0)) (cond (Nat.ble f 14) (23) (cond (Nat.ble f 15) (5) (16)))))) (cond (Nat.ble f 24) (cond (Nat.ble f 20) (cond (Nat.ble f 18) (cond (Nat.ble f 17) (3) (17)) (cond (Nat.ble f 19) (3) (3))) (cond (Nat.ble f 22) (cond (Nat.ble f 21) (7) (7)) (cond (Nat.ble f 23) (7) (7)))) (cond (Nat.ble f 28) (cond (Nat.ble f 26) (cond (Nat.ble f 25) (7) (7)) (cond (Nat.ble f 27) (7) (12))) (cond (Nat.ble f 30) (cond (Nat.ble f 29) (12) (12)) (cond (Nat.ble f 31) (13) (cond (Nat.ble f 32) (99) (8))))))) (cond (Nat.ble f 50) (cond (Nat.ble f 41) (cond (Nat.ble f 37) (cond (Nat.ble f 35) (cond (Nat.ble f 34) (99) (8)) (cond (Nat.ble f 36) (99) (3))) (cond (Nat.ble f 39) (cond (Nat.ble f 38) (2) (99)) (cond (Nat.ble f 40) (99) (99)))) (cond (Nat.ble f 45) (cond (Nat.ble f 43) (cond (Nat.ble f 42) (99) (99)) (cond (Nat.ble f 44) (99) (99))) (cond (Nat.ble f 47) (cond (Nat.ble f 46) (99) (99)) (cond (Nat.ble f 48) (99) (cond (Nat.ble f 49) (99) (99)))))) (cond (Nat.ble f 58) (cond (Nat.ble f 54) (cond (Nat.ble f 52) (cond (Nat.ble f 51) (99) (99)) (cond (Nat.ble f 53) (99) (99))) (cond (Nat.ble f 56) (cond (Nat.ble f 55) (99) (99)) (cond (Nat.ble f 57) (99) (99)))) (cond (Nat.ble f 62) (cond (Nat.ble f 60) (cond (Nat.ble f 59) (99) (99)) (cond (Nat.ble f 61) (99) (0))) (cond (Nat.ble f 64) (cond (Nat.ble f 63) (99) (24)) (cond (Nat.ble f 65) (99) (cond (Nat.ble f 66) (99) (99)))))))) (cond (Nat.ble f 101) (cond (Nat.ble f 84) (cond (Nat.ble f 75) (cond (Nat.ble f 71) (cond (Nat.ble f 69) (cond (Nat.ble f 68) (99) (99)) (cond (Nat.ble f 70) (99) (99))) (cond (Nat.ble f 73) (cond (Nat.ble f 72) (28) (29)) (cond (Nat.ble f 74) (99) (99)))) (cond (Nat.ble f 79) (cond (Nat.ble f 77) (cond (Nat.ble f 76) (99) (99)) (cond (Nat.ble f 78) (99) (99))) (cond (Nat.ble f 81) (cond (Nat.ble f 80) (99) (99)) (cond (Nat.ble f 82) (99) (cond (Nat.ble f 83) (99) (99)))))) (cond (Nat.ble f 92) (cond (Nat.ble f 88) (cond (Nat.ble f 86) (cond (Nat.ble f 85) (99) (99)) (cond (Nat.ble f 87) (99) (99))) (cond (Nat.ble f 90) (cond (Nat.ble f 89) (99) (99)) (cond (Nat.ble f 91) (99) (99)))) (cond (Nat.ble f 96) (cond (Nat.ble f 94) (cond (Nat.ble f 93) (99) (99)) (cond (Nat.ble f 95) (99) (99))) (cond (Nat.ble f 98) (cond (Nat.ble f 97) (99) (99)) (cond (Nat.ble f 99) (99) (cond (Nat.ble f 100) (9) (8))))))) (cond (Nat.ble f 118) (cond (Nat.ble f 109) (cond (Nat.ble f 105) (cond (Nat.ble f 103) (cond (Nat.ble f 102) (10) (11)) (cond (Nat.ble f 104) (8) (6))) (cond (Nat.ble f 107) (cond (Nat.ble f 106) (14) (14)) (cond (Nat.ble f 108) (15) (12)))) (cond (Nat.ble f 113) (cond (Nat.ble f 111) (cond (Nat.ble f 110) (12) (2)) (cond (Nat.ble f 112) (2) (2))) (cond (Nat.ble f 115) (cond (Nat.ble f 114) (2) (2)) (cond (Nat.ble f 116) (2) (cond (Nat.ble f 117) (21) (21)))))) (cond (Nat.ble f 127) (cond (Nat.ble f 122) (cond (Nat.ble f 120) (cond (Nat.ble f 119) (22) (18)) (cond (Nat.ble f 121) (18) (0))) (cond (Nat.ble f 124) (cond (Nat.ble f 123) (0) (23)) (cond (Nat.ble f 125) (23) (cond (Nat.ble f 126) (26) (26))))) (cond (Nat.ble f 131) (cond (Nat.ble f 129) (cond (Nat.ble f 128) (26) (26)) (cond (Nat.ble f 130) (26) (27))) (cond (Nat.ble f 133) (cond (Nat.ble f 132) (30) (30)) (cond (Nat.ble f 134) (32) (cond (Nat.ble f 135) (32) (99))))))))
def c_op (f : Nat) : Nat := cond (Nat.ble f 67) (cond (Nat.ble f 33) (cond (Nat.ble f 16) (cond (Nat.ble f 7) (cond (Nat.ble f 3) (cond (Nat.ble f 1) (cond (Nat.ble f 0) (99) (99)) (cond (Nat.ble f 2) (1) (2))) (cond (Nat.ble f 5) (cond (Nat.ble f 4) (99) (8)) (cond (Nat.ble f 6) (99) (4)))) (cond (Nat.ble f 11) (cond (Nat.ble f 9) (cond (Nat.ble f 8) (99) (99)) (cond (Nat.ble f 10) (11) (99))) (cond (Nat.ble f 13) (cond (Nat.ble f 12) (99) (11)) (cond (Nat.ble f 14) (4) (cond (Nat.ble f 15) (99) (99)))))) (cond (Nat.ble f 24) (cond (Nat.ble f 20) (cond (Nat.ble f 18) (cond (Nat.ble f 17) (4) (99)) (cond (Nat.ble f 19) (5) (6))) (cond (Nat.ble f 22) (cond (Nat.ble f 21) (4) (5)) (cond (Nat.ble f 23) (6) (7)))) (cond (Nat.ble f 28) (cond (Nat.ble f 26) (cond (Nat.ble f 25) (8) (9)) (cond (Nat.ble f 27) (10) (1))) (cond (Nat.ble f 30) (cond (Nat.ble f 29) (2) (3)) (cond (Nat.ble f 31) (99) (cond (Nat.ble f 32) (99) (4))))))) (cond (Nat.ble f 50) (cond (Nat.ble f 41) (cond (Nat.ble f 37) (cond (Nat.ble f 35) (cond (Nat.ble f 34) (99) (6)) (cond (Nat.ble f 36) (99) (7))) (cond (Nat.ble f 39) (cond (Nat.ble f 38) (6) (99)) (cond (Nat.ble f 40) (99) (99)))) (cond (Nat.ble f 45) (cond (Nat.ble f 43) (cond (Nat.ble f 42) (99) (99)) (cond (Nat.ble f 44) (99) (99))) (cond (Nat.ble f 47) (cond (Nat.ble f 46) (99) (99)) (cond (Nat.ble f 48) (99) (cond (Nat.ble f 49) (99) (99)))))) (cond (Nat.ble f 58) (cond (Nat.ble f 54) (cond (Nat.ble f 52) (cond (Nat.ble f 51) (99) (99)) (cond (Nat.ble f 53) (99) (99))) (cond (Nat.ble f 56) (cond (Nat.ble f 55) (99) (99)) (cond (Nat.ble f 57) (99) (99)))) (cond (Nat.ble f 62) (cond (Nat.ble f 60) (cond (Nat.ble f 59) (99) (99)) (cond (Nat.ble f 61) (99) (12))) (cond (Nat.ble f 64) (cond (Nat.ble f 63) (99) (99)) (cond (Nat.ble f 65) (99) (cond (Nat.ble f 66) (99) (99)))))))) (cond (Nat.ble f 101) (cond (Nat.ble f 84) (cond (Nat.ble f 75) (cond (Nat.ble f 71) (cond (Nat.ble f 69) (cond (Nat.ble f 68) (99) (99)) (cond (Nat.ble f 70) (99) (99))) (cond (Nat.ble f 73) (cond (Nat.ble f 72) (1) (99)) (cond (Nat.ble f 74) (99) (99)))) (cond (Nat.ble f 79) (cond (Nat.ble f 77) (cond (Nat.ble f 76) (99) (99)) (cond (Nat.ble f 78) (99) (99))) (cond (Nat.ble f 81) (cond (Nat.ble f 80) (99) (99)) (cond (Nat.ble f 82) (99) (cond (Nat.ble f 83) (99) (99)))))) (cond (Nat.ble f 92) (cond (Nat.ble f 88) (cond (Nat.ble f 86) (cond (Nat.ble f 85) (99) (99)) (cond (Nat.ble f 87) (99) (99))) (cond (Nat.ble f 90) (cond (Nat.ble f 89) (99) (99)) (cond (Nat.ble f 91) (99) (99)))) (cond (Nat.ble f 96) (cond (Nat.ble f 94) (cond (Nat.ble f 93) (99) (99)) (cond (Nat.ble f 95) (99) (99))) (cond (Nat.ble f 98) (cond (Nat.ble f 97) (99) (99)) (cond (Nat.ble f 99) (99) (cond (Nat.ble f 100) (99) (3))))))) (cond (Nat.ble f 118) (cond (Nat.ble f 109) (cond (Nat.ble f 105) (cond (Nat.ble f 103) (cond (Nat.ble f 102) (99) (99)) (cond (Nat.ble f 104) (5) (99))) (cond (Nat.ble f 107) (cond (Nat.ble f 106) (1) (2)) (cond (Nat.ble f 108) (99) (4)))) (cond (Nat.ble f 113) (cond (Nat.ble f 111) (cond (Nat.ble f 110) (5) (0)) (cond (Nat.ble f 112) (5) (7))) (cond (Nat.ble f 115) (cond (Nat.ble f 114) (8) (9)) (cond (Nat.ble f 116) (10) (cond (Nat.ble f 117) (1) (2)))))) (cond (Nat.ble f 127) (cond (Nat.ble f 122) (cond (Nat.ble f 120) (cond (Nat.ble f 119) (99) (1)) (cond (Nat.ble f 121) (2) (9))) (cond (Nat.ble f 124) (cond (Nat.ble f 123) (10) (2)) (cond (Nat.ble f 125) (3) (cond (Nat.ble f 126) (1) (2))))) (cond (Nat.ble f 131) (cond (Nat.ble f 129) (cond (Nat.ble f 128) (3) (4)) (cond (Nat.ble f 130) (5) (99))) (cond (Nat.ble f 133) (cond (Nat.ble f 132) (1) (2)) (cond (Nat.ble f 134) (1) (cond (Nat.ble f 135) (2) (99))))))))
def c_rf (ca : Nat → Nat → Nat) (ρ : Nat → Nat → Option Nat) (k j : Nat) : Nat → Option Nat := cond (Nat.ble k 17) (cond (Nat.ble k 8) (cond (Nat.ble k 3) (cond (Nat.ble k 1) (cond (Nat.ble k 0) (fun _ => none) (fun i => some (ca 2 i))) (cond (Nat.ble k 2) (fun _ => none) (fun _ => none))) (cond (Nat.ble k 5) (cond (Nat.ble k 4) (fun _ => none) (fun _ => none)) (cond (Nat.ble k 6) (fun _ => none) (cond (Nat.ble k 7) (fun _ => none) (fun _ => none))))) (cond (Nat.ble k 12) (cond (Nat.ble k 10) (cond (Nat.ble k 9) (fun _ => none) (fun _ => none)) (cond (Nat.ble k 11) (fun _ => none) (fun _ => none))) (cond (Nat.ble k 14) (cond (Nat.ble k 13) (fun _ => none) (fun _ => none)) (cond (Nat.ble k 15) (fun _ => none) (cond (Nat.ble k 16) (fun _ => none) (fun _ => none)))))) (cond (Nat.ble k 26) (cond (Nat.ble k 21) (cond (Nat.ble k 19) (cond (Nat.ble k 18) (fun _ => none) (ρ j)) (cond (Nat.ble k 20) (fun i => some (ca 21 (64 * j + i))) (fun _ => none))) (cond (Nat.ble k 23) (cond (Nat.ble k 22) (fun _ => none) (fun _ => none)) (cond (Nat.ble k 24) (fun _ => none) (cond (Nat.ble k 25) (fun i => some (ca 26 i)) (fun _ => none))))) (cond (Nat.ble k 30) (cond (Nat.ble k 28) (cond (Nat.ble k 27) (fun _ => none) (fun _ => none)) (cond (Nat.ble k 29) (fun _ => none) (fun _ => none))) (cond (Nat.ble k 32) (cond (Nat.ble k 31) (ρ 4) (fun _ => none)) (cond (Nat.ble k 33) (ρ 5) (cond (Nat.ble k 34) (fun _ => none) (fun _ => none))))))
def c_ob (n : Nat) (F : Nat → Value) : List Value := (List.range n).map F
theorem c_at {F : Nat → Value} {n p : Nat} (hp : p < n) : (c_ob n F)[p]? = some (F p) := by
  rw [c_ob, List.getElem?_map, List.getElem?_range hp]; rfl
theorem c_obl {F : Nat → Value} {n : Nat} : (c_ob n F).length = n := by
  rw [c_ob, List.length_map, List.length_range]
theorem c_ob_set {F : Nat → Value} {n p : Nat} {v : Value} : (c_ob n F).set p v = c_ob n (va_up F p v) := by
  apply List.ext_getElem?
  intro j
  by_cases hj : j = p
  · subst hj
    by_cases hl : j < n
    · rw [List.getElem?_set_self (by rw [c_obl]; exact hl), c_at hl, va_up_self]
    · rw [List.getElem?_eq_none (by rw [List.length_set, c_obl]; omega), List.getElem?_eq_none (by rw [c_obl]; omega)]
  · rw [List.getElem?_set_ne (Ne.symm hj)]
    by_cases hl : j < n
    · rw [c_at hl, c_at hl, va_up_ne _ _ hj]
    · rw [List.getElem?_eq_none (by rw [c_obl]; omega), List.getElem?_eq_none (by rw [c_obl]; omega)]
def c_val (ca : Nat → Nat → Nat) (σ : (Nat → Nat → Int32)) (τ : (Nat → Nat → Int64)) (k j p : Nat) : Value := cond (Nat.beq (c_fk k p) 1) (.ref (ca (c_rk k p) j)) (cond (Nat.beq (c_fk k p) 2) (.long (τ (c_F k p) j)) (.int (σ (c_F k p) j)))
def trI (n : Nat) (g : Nat → Int32) : Nat → Int32 := fun i => if i < n then g i else 0
def trO (n : Nat) (g : Nat → Option Nat) : Nat → Option Nat := fun i => if i < n then g i else none
def c_cell (ca : Nat → Nat → Nat) (n pg rm : Nat) (σ : (Nat → Nat → Int32)) (τ : (Nat → Nat → Int64)) (ρ : Nat → Nat → Option Nat) (k j : Nat) : xE :=
  cond (c_isO k) (.inr (c_cls k, c_ob (c_nf k) (c_val ca σ τ k j)))
    (cond (c_isR k) (.inl (c_ty k, c_len n pg rm k, .inr (.inr (.inr (.inr (trO (c_len n pg rm k) (c_rf ca ρ k j)))))))
      (.inl (c_ty k, c_len n pg rm k, .inl (trI (c_len n pg rm k) (fun i => σ (c_A k) (c_st k * j + i))))))
def RepC (ca : Nat → Nat → Nat) (n pg rm : Nat) (σ : (Nat → Nat → Int32)) (τ : (Nat → Nat → Int64)) (ρ : Nat → Nat → Option Nat) (h : xH) : Prop :=
  (∀ k j, j < c_cnt n k → h (ca k j) = some (c_cell ca n pg rm σ τ ρ k j)) ∧ (∀ k j k' j', j < c_cnt n k → j' < c_cnt n k' → ca k j = ca k' j' → k = k' ∧ j = j') ∧ n ≤ 4 ∧ pg ≤ 16 ∧ rm ≤ 32
def CF (ca : Nat → Nat → Nat) (n : Nat) (h h' : xH) : Prop := ∀ b, (∀ k j, j < c_cnt n k → b ≠ ca k j) → h' b = h b
theorem CF.rf {ca : Nat → Nat → Nat} {n : Nat} {h : xH} : CF ca n h h := fun _ _ => rfl
theorem CF.tr {ca : Nat → Nat → Nat} {n : Nat} {h h1 h2 : xH} (a : CF ca n h h1) (b : CF ca n h1 h2) : CF ca n h h2 := fun q q1 => (b q q1).trans (a q q1)
theorem c_k36 {n k j : Nat} (h : j < c_cnt n k) : k < 36 := by
  rcases Nat.lt_or_ge k 36 with q | q
  · exact q
  · exfalso
    unfold c_cnt at h
    have hb : ∀ m, m < 36 → Nat.ble k m = false := fun m hm => by cases hq : Nat.ble k m with | false => rfl | true => exact absurd (Nat.le_of_ble_eq_true hq) (by omega)
    simp only [hb 0 (by decide), hb 1 (by decide), hb 2 (by decide), hb 3 (by decide), hb 4 (by decide), hb 5 (by decide), hb 6 (by decide), hb 7 (by decide), hb 8 (by decide), hb 9 (by decide), hb 10 (by decide), hb 11 (by decide), hb 12 (by decide), hb 13 (by decide), hb 14 (by decide), hb 15 (by decide), hb 16 (by decide), hb 17 (by decide), hb 18 (by decide), hb 19 (by decide), hb 20 (by decide), hb 21 (by decide), hb 22 (by decide), hb 23 (by decide), hb 24 (by decide), hb 25 (by decide), hb 26 (by decide), hb 27 (by decide), hb 28 (by decide), hb 29 (by decide), hb 30 (by decide), hb 31 (by decide), hb 32 (by decide), hb 33 (by decide), hb 34 (by decide), hb 35 (by decide), cond_false] at h
    exact absurd h (by omega)
def c_ckF (k p : Nat) : Bool := !Nat.ble (p + 1) (c_nf k) || !c_isO k || Nat.beq (c_fk k p) 1 || Nat.beq (c_fk k p) 2 || (Nat.beq (c_ow (c_F k p)) k && Nat.beq (c_op (c_F k p)) p)
theorem c_ckF0 : ∀ k, k < 36 → ∀ p, p < 13 → c_ckF k p = true := by decide
theorem c_nf13 : ∀ k, k < 36 → c_nf k ≤ 13 := by decide
theorem c_owF {k p : Nat} (hk : k < 36) (hp : p < c_nf k) (h0 : c_isO k = true) (h1 : Nat.beq (c_fk k p) 1 = false) (h2 : Nat.beq (c_fk k p) 2 = false) : c_ow (c_F k p) = k ∧ c_op (c_F k p) = p := by
  have h := c_ckF0 k hk p (Nat.lt_of_lt_of_le hp (c_nf13 k hk))
  rw [c_ckF, h0, h1, h2, Nat.ble_eq_true_of_le hp] at h
  simp only [Bool.not_true, Bool.false_or, Bool.and_eq_true] at h
  exact ⟨Nat.eq_of_beq_eq_true h.1, Nat.eq_of_beq_eq_true h.2⟩
def c_ckA (k : Nat) : Bool := c_isO k || c_isR k || !Nat.ble 1 (c_cnt 1 k) || Nat.beq (c_ow (c_A k)) k
theorem c_ckA0 : ∀ k, k < 36 → c_ckA k = true := by decide
theorem c_owA {k : Nat} (hk : k < 36) (h0 : c_isO k = false) (h1 : c_isR k = false) (h2 : Nat.ble 1 (c_cnt 1 k) = true) : c_ow (c_A k) = k := by
  have h := c_ckA0 k hk
  rw [c_ckA, h0, h1, h2] at h
  simp only [Bool.not_true, Bool.false_or] at h
  exact Nat.eq_of_beq_eq_true h
theorem c_owX {k k2 p : Nat} (hk : k < 36) (h0 : c_isO k = false) (h1 : c_isR k = false) (h2 : Nat.ble 1 (c_cnt 1 k) = true) (hk2 : k2 < 36) (hp : p < c_nf k2) (g0 : c_isO k2 = true) (g1 : Nat.beq (c_fk k2 p) 1 = false) (g2 : Nat.beq (c_fk k2 p) 2 = false) : ¬ c_F k2 p = c_A k := by
  intro e
  have a := c_owA hk h0 h1 h2
  have b := (c_owF hk2 hp g0 g1 g2).1
  rw [e, a] at b
  subst b
  rw [h0] at g0
  cases g0
def c_ckL (k p : Nat) : Bool := !Nat.ble (p + 1) (c_nf k) || !Nat.beq (c_fk k p) 2 || (Nat.beq k 3 && Nat.beq p 5)
theorem c_ckL0 : ∀ k, k < 36 → ∀ p, p < 13 → c_ckL k p = true := by decide
theorem c_lt {k p : Nat} (hk : k < 36) (hp : p < c_nf k) (h : Nat.beq (c_fk k p) 2 = true) : k = 3 ∧ p = 5 := by
  have q := c_ckL0 k hk p (Nat.lt_of_lt_of_le hp (c_nf13 k hk))
  rw [c_ckL, h, Nat.ble_eq_true_of_le hp] at q
  simp only [Bool.not_true, Bool.false_or, Bool.and_eq_true] at q
  exact ⟨Nat.eq_of_beq_eq_true q.1, Nat.eq_of_beq_eq_true q.2⟩
theorem c_cnt1 : ∀ k, k < 36 → Nat.ble 1 (c_cnt 1 k) = false → ∀ n, c_cnt n k = 0 := by
  intro k hk h n
  rcases (by omega : k = 0 ∨ k = 1 ∨ k = 2 ∨ k = 3 ∨ k = 4 ∨ k = 5 ∨ k = 6 ∨ k = 7 ∨ k = 8 ∨ k = 9 ∨ k = 10 ∨ k = 11 ∨ k = 12 ∨ k = 13 ∨ k = 14 ∨ k = 15 ∨ k = 16 ∨ k = 17 ∨ k = 18 ∨ k = 19 ∨ k = 20 ∨ k = 21 ∨ k = 22 ∨ k = 23 ∨ k = 24 ∨ k = 25 ∨ k = 26 ∨ k = 27 ∨ k = 28 ∨ k = 29 ∨ k = 30 ∨ k = 31 ∨ k = 32 ∨ k = 33 ∨ k = 34 ∨ k = 35) with e | e | e | e | e | e | e | e | e | e | e | e | e | e | e | e | e | e | e | e | e | e | e | e | e | e | e | e | e | e | e | e | e | e | e | e <;> subst e <;> first | rfl | exact absurd h (by decide)
theorem cR0_0 : c_rk 0 0 = 1 := rfl
theorem cF0_1 : c_F 0 1 = 2 := rfl
theorem cF0_2 : c_F 0 2 = 3 := rfl
theorem cR0_3 : c_rk 0 3 = 34 := rfl
theorem cR0_4 : c_rk 0 4 = 23 := rfl
theorem cR0_5 : c_rk 0 5 = 28 := rfl
theorem cR0_6 : c_rk 0 6 = 30 := rfl
theorem cR0_7 : c_rk 0 7 = 32 := rfl
theorem cF0_8 : c_F 0 8 = 5 := rfl
theorem cF0_9 : c_F 0 9 = 122 := rfl
theorem cF0_10 : c_F 0 10 = 123 := rfl
theorem cF0_11 : c_F 0 11 = 13 := rfl
theorem cF0_12 : c_F 0 12 = 62 := rfl
theorem cF2_0 : c_F 2 0 = 111 := rfl
theorem cR2_1 : c_rk 2 1 = 3 := rfl
theorem cR2_2 : c_rk 2 2 = 18 := rfl
theorem cR2_3 : c_rk 2 3 = 20 := rfl
theorem cF2_4 : c_F 2 4 = 7 := rfl
theorem cF2_5 : c_F 2 5 = 112 := rfl
theorem cF2_6 : c_F 2 6 = 38 := rfl
theorem cF2_7 : c_F 2 7 = 113 := rfl
theorem cF2_8 : c_F 2 8 = 114 := rfl
theorem cF2_9 : c_F 2 9 = 115 := rfl
theorem cF2_10 : c_F 2 10 = 116 := rfl
theorem cF2_11 : c_F 2 11 = 10 := rfl
theorem cR3_0 : c_rk 3 0 = 4 := rfl
theorem cR3_1 : c_rk 3 1 = 7 := rfl
theorem cR3_2 : c_rk 3 2 = 16 := rfl
theorem cR3_3 : c_rk 3 3 = 17 := rfl
theorem cF3_4 : c_F 3 4 = 17 := rfl
theorem cF3_5 : c_F 3 5 = 19 := rfl
theorem cF3_6 : c_F 3 6 = 20 := rfl
theorem cF3_7 : c_F 3 7 = 37 := rfl
theorem cR4_0 : c_rk 4 0 = 5 := rfl
theorem cR4_1 : c_rk 4 1 = 6 := rfl
theorem cR7_0 : c_rk 7 0 = 4 := rfl
theorem cR7_1 : c_rk 7 1 = 8 := rfl
theorem cR7_2 : c_rk 7 2 = 12 := rfl
theorem cR7_3 : c_rk 7 3 = 14 := rfl
theorem cF7_4 : c_F 7 4 = 21 := rfl
theorem cF7_5 : c_F 7 5 = 22 := rfl
theorem cF7_6 : c_F 7 6 = 23 := rfl
theorem cF7_7 : c_F 7 7 = 24 := rfl
theorem cF7_8 : c_F 7 8 = 25 := rfl
theorem cF7_9 : c_F 7 9 = 26 := rfl
theorem cF7_10 : c_F 7 10 = 27 := rfl
theorem cR8_0 : c_rk 8 0 = 9 := rfl
theorem cR8_1 : c_rk 8 1 = 10 := rfl
theorem cR8_2 : c_rk 8 2 = 11 := rfl
theorem cF8_3 : c_F 8 3 = 101 := rfl
theorem cF8_4 : c_F 8 4 = 33 := rfl
theorem cF8_5 : c_F 8 5 = 104 := rfl
theorem cF8_6 : c_F 8 6 = 35 := rfl
theorem cR12_0 : c_rk 12 0 = 13 := rfl
theorem cF12_1 : c_F 12 1 = 28 := rfl
theorem cF12_2 : c_F 12 2 = 29 := rfl
theorem cF12_3 : c_F 12 3 = 30 := rfl
theorem cF12_4 : c_F 12 4 = 109 := rfl
theorem cF12_5 : c_F 12 5 = 110 := rfl
theorem cR14_0 : c_rk 14 0 = 15 := rfl
theorem cF14_1 : c_F 14 1 = 106 := rfl
theorem cF14_2 : c_F 14 2 = 107 := rfl
theorem cR18_0 : c_rk 18 0 = 19 := rfl
theorem cF18_1 : c_F 18 1 = 120 := rfl
theorem cF18_2 : c_F 18 2 = 121 := rfl
theorem cR21_0 : c_rk 21 0 = 22 := rfl
theorem cF21_1 : c_F 21 1 = 117 := rfl
theorem cF21_2 : c_F 21 2 = 118 := rfl
theorem cR23_0 : c_rk 23 0 = 24 := rfl
theorem cR23_1 : c_rk 23 1 = 25 := rfl
theorem cF23_2 : c_F 23 2 = 124 := rfl
theorem cF23_3 : c_F 23 3 = 125 := rfl
theorem cF23_4 : c_F 23 4 = 14 := rfl
theorem cR26_0 : c_rk 26 0 = 27 := rfl
theorem cF26_1 : c_F 26 1 = 126 := rfl
theorem cF26_2 : c_F 26 2 = 127 := rfl
theorem cF26_3 : c_F 26 3 = 128 := rfl
theorem cF26_4 : c_F 26 4 = 129 := rfl
theorem cF26_5 : c_F 26 5 = 130 := rfl
theorem cR28_0 : c_rk 28 0 = 29 := rfl
theorem cF28_1 : c_F 28 1 = 72 := rfl
theorem cR30_0 : c_rk 30 0 = 31 := rfl
theorem cF30_1 : c_F 30 1 = 132 := rfl
theorem cF30_2 : c_F 30 2 = 133 := rfl
theorem cR32_0 : c_rk 32 0 = 33 := rfl
theorem cF32_1 : c_F 32 1 = 134 := rfl
theorem cF32_2 : c_F 32 2 = 135 := rfl
theorem cA5 : c_A 5 = 15 := rfl
theorem cS5 : c_st 5 = 4096 := rfl
theorem cA6 : c_A 6 = 105 := rfl
theorem cS6 : c_st 6 = 16 := rfl
theorem cA9 : c_A 9 = 100 := rfl
theorem cS9 : c_st 9 = 16 := rfl
theorem cA10 : c_A 10 = 102 := rfl
theorem cS10 : c_st 10 = 4 := rfl
theorem cA11 : c_A 11 = 103 := rfl
theorem cS11 : c_st 11 = 128 := rfl
theorem cA13 : c_A 13 = 31 := rfl
theorem cS13 : c_st 13 = 64 := rfl
theorem cA15 : c_A 15 = 108 := rfl
theorem cS15 : c_st 15 = 32 := rfl
theorem cA16 : c_A 16 = 16 := rfl
theorem cS16 : c_st 16 = 32 := rfl
theorem cA17 : c_A 17 = 18 := rfl
theorem cS17 : c_st 17 = 7 := rfl
theorem cA22 : c_A 22 = 119 := rfl
theorem cS22 : c_st 22 = 32 := rfl
theorem cA24 : c_A 24 = 64 := rfl
theorem cS24 : c_st 24 = 512 := rfl
theorem cA27 : c_A 27 = 131 := rfl
theorem cS27 : c_st 27 = 64 := rfl
theorem cA29 : c_A 29 = 73 := rfl
theorem cS29 : c_st 29 = 4096 := rfl
theorem cA34 : c_A 34 = 6 := rfl
theorem cS34 : c_st 34 = 4096 := rfl
theorem cL5 {n pg rm : Nat} : c_len n pg rm 5 = 256 * pg := rfl
theorem cL6 {n pg rm : Nat} : c_len n pg rm 6 = pg := rfl
theorem cL9 {n pg rm : Nat} : c_len n pg rm 9 = 16 := rfl
theorem cL10 {n pg rm : Nat} : c_len n pg rm 10 = 4 := rfl
theorem cL11 {n pg rm : Nat} : c_len n pg rm 11 = 128 := rfl
theorem cL13 {n pg rm : Nat} : c_len n pg rm 13 = 64 := rfl
theorem cL15 {n pg rm : Nat} : c_len n pg rm 15 = 32 := rfl
theorem cL16 {n pg rm : Nat} : c_len n pg rm 16 = 32 := rfl
theorem cL17 {n pg rm : Nat} : c_len n pg rm 17 = 7 := rfl
theorem cL22 {n pg rm : Nat} : c_len n pg rm 22 = 32 := rfl
theorem cL24 {n pg rm : Nat} : c_len n pg rm 24 = 512 := rfl
theorem cL27 {n pg rm : Nat} : c_len n pg rm 27 = 64 := rfl
theorem cL29 {n pg rm : Nat} : c_len n pg rm 29 = 4096 := rfl
theorem cL34 {n pg rm : Nat} : c_len n pg rm 34 = 256 * pg := rfl
theorem cL1 {n pg rm : Nat} : c_len n pg rm 1 = n := rfl
theorem cL19 {n pg rm : Nat} : c_len n pg rm 19 = 512 := rfl
theorem cL20 {n pg rm : Nat} : c_len n pg rm 20 = 64 := rfl
theorem cL25 {n pg rm : Nat} : c_len n pg rm 25 = 128 := rfl
theorem cL31 {n pg rm : Nat} : c_len n pg rm 31 = rm := rfl
theorem cL33 {n pg rm : Nat} : c_len n pg rm 33 = rm := rfl
theorem cN0 {n : Nat} : c_cnt n 0 = 1 := rfl
theorem cN1 {n : Nat} : c_cnt n 1 = 1 := rfl
theorem cN2 {n : Nat} : c_cnt n 2 = n := rfl
theorem cN3 {n : Nat} : c_cnt n 3 = n := rfl
theorem cN4 {n : Nat} : c_cnt n 4 = n := rfl
theorem cN5 {n : Nat} : c_cnt n 5 = n := rfl
theorem cN6 {n : Nat} : c_cnt n 6 = n := rfl
theorem cN7 {n : Nat} : c_cnt n 7 = n := rfl
theorem cN8 {n : Nat} : c_cnt n 8 = n := rfl
theorem cN9 {n : Nat} : c_cnt n 9 = n := rfl
theorem cN10 {n : Nat} : c_cnt n 10 = n := rfl
theorem cN11 {n : Nat} : c_cnt n 11 = n := rfl
theorem cN12 {n : Nat} : c_cnt n 12 = n := rfl
theorem cN13 {n : Nat} : c_cnt n 13 = n := rfl
theorem cN14 {n : Nat} : c_cnt n 14 = n := rfl
theorem cN15 {n : Nat} : c_cnt n 15 = n := rfl
theorem cN16 {n : Nat} : c_cnt n 16 = n := rfl
theorem cN17 {n : Nat} : c_cnt n 17 = n := rfl
theorem cN18 {n : Nat} : c_cnt n 18 = n := rfl
theorem cN19 {n : Nat} : c_cnt n 19 = n := rfl
theorem cN20 {n : Nat} : c_cnt n 20 = n := rfl
theorem cN21 {n : Nat} : c_cnt n 21 = 64 * n := rfl
theorem cN22 {n : Nat} : c_cnt n 22 = 64 * n := rfl
theorem cN23 {n : Nat} : c_cnt n 23 = 1 := rfl
theorem cN24 {n : Nat} : c_cnt n 24 = 1 := rfl
theorem cN25 {n : Nat} : c_cnt n 25 = 1 := rfl
theorem cN26 {n : Nat} : c_cnt n 26 = 128 := rfl
theorem cN27 {n : Nat} : c_cnt n 27 = 128 := rfl
theorem cN28 {n : Nat} : c_cnt n 28 = 1 := rfl
theorem cN29 {n : Nat} : c_cnt n 29 = 1 := rfl
theorem cN30 {n : Nat} : c_cnt n 30 = 1 := rfl
theorem cN31 {n : Nat} : c_cnt n 31 = 1 := rfl
theorem cN32 {n : Nat} : c_cnt n 32 = 1 := rfl
theorem cN33 {n : Nat} : c_cnt n 33 = 1 := rfl
theorem cN34 {n : Nat} : c_cnt n 34 = 1 := rfl
