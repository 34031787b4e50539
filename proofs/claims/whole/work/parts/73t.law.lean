/-! the code of the law itself, piece by piece -/
theorem qm_L_law_k0 : qa_rng 0 100 (qa_chk code qm_L_law_c) = true := by decide +kernel
def qm_L_law_b1 : ByteArray := .mk #[0, 0, 3, 92, 0, 0, 3, 148, 0, 0, 3, 216, 0, 0, 4, 16, 0, 0, 4, 71, 0, 0, 4, 115, 0, 0, 4, 159, 0, 0, 4, 215, 0, 0, 5, 15, 0, 0, 5, 83, 0, 0, 5, 151, 0, 0, 5, 231, 0, 0, 6, 31, 0, 0, 6, 87, 0, 0, 6, 155, 0, 0, 6, 223, 0, 0, 7, 35, 0, 0, 7, 103, 0, 0, 7, 171, 0, 0, 7, 227, 0, 0, 8, 39, 0, 0, 8, 95, 0, 0, 8, 151, 0, 0, 8, 207, 0, 0, 9, 7, 0, 0, 9, 63, 0, 0]
theorem qm_L_law_e1 : (code.data.toList.drop 100).take qm_L_law_b1.data.toList.length = qm_L_law_b1.data.toList := by decide +kernel
theorem qm_L_law_k1 : qa_rng 0 100 (qd_chk 100 qm_L_law_b1 qm_L_law_c) = true := by decide +kernel
def qm_L_law_b2 : ByteArray := .mk #[0, 0, 9, 63, 0, 0, 9, 119, 0, 0, 9, 132, 0, 0, 9, 188, 0, 0, 10, 0, 0, 0, 10, 56, 0, 0, 10, 111, 0, 0, 10, 166, 0, 0, 10, 222, 0, 0, 10, 235, 0, 0, 11, 35, 0, 0, 11, 91, 0, 0, 11, 147, 0, 0, 11, 224, 0, 0, 12, 46, 0, 0, 12, 102, 0, 0, 12, 115, 0, 0, 12, 171, 0, 0, 12, 227, 0, 0, 13, 29, 0, 0, 13, 73, 0, 0, 13, 117, 0, 0, 13, 161, 0, 0, 13, 205, 0, 0, 13, 249, 0, 0, 14, 37, 0, 0]
theorem qm_L_law_e2 : (code.data.toList.drop 200).take qm_L_law_b2.data.toList.length = qm_L_law_b2.data.toList := by decide +kernel
theorem qm_L_law_k2 : qa_rng 0 100 (qd_chk 200 qm_L_law_b2 qm_L_law_c) = true := by decide +kernel
def qm_L_law_b3 : ByteArray := .mk #[0, 0, 14, 37, 0, 0, 14, 50, 43, 45, 184, 0, 206, 54, 6, 44, 182, 0, 211, 54, 7, 44, 182, 0, 212, 21, 6, 159, 0, 5, 3, 172, 21, 6, 154, 0, 15, 45, 3, 47, 21, 7, 133, 148, 153, 0, 5, 3, 172, 167, 13, 45, 43, 42, 21, 5, 4, 96, 46, 42, 21, 5, 5, 96, 46, 42, 21, 5, 6, 96, 46, 45, 184, 0, 215, 54, 6, 44, 42, 21, 5, 4, 96, 46, 42, 21, 5, 5, 96, 46, 42, 21, 5, 6, 96, 46, 182, 0, 218, 54, 7, 44, 182, 0, 212, 21]
theorem qm_L_law_e3 : (code.data.toList.drop 300).take qm_L_law_b3.data.toList.length = qm_L_law_b3.data.toList := by decide +kernel
theorem qm_L_law_k3 : qa_rng 0 100 (qd_chk 300 qm_L_law_b3 qm_L_law_c) = true := by decide +kernel
def qm_L_law_b4 : ByteArray := .mk #[7, 44, 182, 0, 212, 21, 6, 159, 0, 5, 3, 172, 21, 6, 154, 0, 15, 45, 3, 47, 21, 7, 133, 148, 153, 0, 5, 3, 172, 167, 12, 221, 43, 42, 21, 5, 4, 96, 46, 42, 21, 5, 5, 96, 46, 45, 184, 0, 219, 54, 6, 44, 42, 21, 5, 4, 96, 46, 42, 21, 5, 5, 96, 46, 182, 0, 222, 54, 7, 44, 182, 0, 212, 21, 6, 159, 0, 5, 3, 172, 21, 6, 154, 0, 15, 45, 3, 47, 21, 7, 133, 148, 153, 0, 5, 3, 172, 167, 12, 153, 43, 42, 21, 5, 4, 96]
theorem qm_L_law_e4 : (code.data.toList.drop 400).take qm_L_law_b4.data.toList.length = qm_L_law_b4.data.toList := by decide +kernel
theorem qm_L_law_k4 : qa_rng 0 100 (qd_chk 400 qm_L_law_b4 qm_L_law_c) = true := by decide +kernel
def qm_L_law_b5 : ByteArray := .mk #[43, 42, 21, 5, 4, 96, 46, 45, 184, 0, 223, 54, 6, 44, 42, 21, 5, 4, 96, 46, 182, 0, 226, 54, 7, 44, 182, 0, 212, 21, 6, 159, 0, 5, 3, 172, 21, 6, 154, 0, 15, 45, 3, 47, 21, 7, 133, 148, 153, 0, 5, 3, 172, 167, 12, 97, 43, 42, 21, 5, 4, 96, 46, 42, 21, 5, 5, 96, 46, 45, 184, 0, 227, 54, 6, 44, 42, 21, 5, 4, 96, 46, 42, 21, 5, 5, 96, 46, 182, 0, 229, 54, 7, 44, 182, 0, 212, 21, 6, 159, 0, 5, 3, 172, 21, 6]
theorem qm_L_law_e5 : (code.data.toList.drop 500).take qm_L_law_b5.data.toList.length = qm_L_law_b5.data.toList := by decide +kernel
theorem qm_L_law_k5 : qa_rng 0 100 (qd_chk 500 qm_L_law_b5 qm_L_law_c) = true := by decide +kernel
def qm_L_law_b6 : ByteArray := .mk #[0, 5, 3, 172, 21, 6, 154, 0, 15, 45, 3, 47, 21, 7, 133, 148, 153, 0, 5, 3, 172, 167, 12, 29, 43, 182, 0, 230, 44, 182, 0, 233, 159, 12, 18, 3, 172, 43, 42, 21, 5, 4, 96, 46, 45, 184, 0, 234, 54, 6, 44, 42, 21, 5, 4, 96, 46, 182, 0, 236, 54, 7, 44, 182, 0, 212, 21, 6, 159, 0, 5, 3, 172, 21, 6, 154, 0, 15, 45, 3, 47, 21, 7, 133, 148, 153, 0, 5, 3, 172, 167, 11, 216, 43, 42, 21, 5, 4, 96, 46, 42, 21, 5, 5, 96, 46]
theorem qm_L_law_e6 : (code.data.toList.drop 600).take qm_L_law_b6.data.toList.length = qm_L_law_b6.data.toList := by decide +kernel
theorem qm_L_law_k6 : qa_rng 0 100 (qd_chk 600 qm_L_law_b6 qm_L_law_c) = true := by decide +kernel
def qm_L_law_b7 : ByteArray := .mk #[42, 21, 5, 5, 96, 46, 45, 184, 0, 237, 54, 6, 44, 42, 21, 5, 4, 96, 46, 42, 21, 5, 5, 96, 46, 182, 0, 239, 54, 7, 44, 182, 0, 212, 21, 6, 159, 0, 5, 3, 172, 21, 6, 154, 0, 22, 45, 3, 47, 21, 7, 153, 0, 7, 10, 167, 0, 4, 9, 148, 153, 0, 5, 3, 172, 167, 11, 141, 43, 42, 21, 5, 4, 96, 46, 42, 21, 5, 5, 96, 46, 45, 184, 0, 240, 54, 6, 44, 42, 21, 5, 4, 96, 46, 42, 21, 5, 5, 96, 46, 182, 0, 242, 54, 7, 44]
theorem qm_L_law_e7 : (code.data.toList.drop 700).take qm_L_law_b7.data.toList.length = qm_L_law_b7.data.toList := by decide +kernel
theorem qm_L_law_k7 : qa_rng 0 100 (qd_chk 700 qm_L_law_b7 qm_L_law_c) = true := by decide +kernel
def qm_L_law_b8 : ByteArray := .mk #[182, 0, 242, 54, 7, 44, 182, 0, 212, 21, 6, 159, 0, 5, 3, 172, 21, 6, 154, 0, 15, 45, 3, 47, 21, 7, 133, 148, 153, 0, 5, 3, 172, 167, 11, 73, 43, 42, 21, 5, 4, 96, 46, 42, 21, 5, 5, 96, 46, 45, 184, 0, 243, 54, 6, 44, 42, 21, 5, 4, 96, 46, 42, 21, 5, 5, 96, 46, 182, 0, 245, 54, 7, 44, 182, 0, 212, 21, 6, 159, 0, 5, 3, 172, 21, 6, 154, 0, 15, 45, 3, 47, 21, 7, 133, 148, 153, 0, 5, 3, 172, 167, 11, 5, 43, 42]
theorem qm_L_law_e8 : (code.data.toList.drop 800).take qm_L_law_b8.data.toList.length = qm_L_law_b8.data.toList := by decide +kernel
theorem qm_L_law_k8 : qa_rng 0 100 (qd_chk 800 qm_L_law_b8 qm_L_law_c) = true := by decide +kernel
def qm_L_law_b9 : ByteArray := .mk #[172, 167, 11, 5, 43, 42, 21, 5, 4, 96, 46, 45, 184, 0, 246, 54, 6, 44, 42, 21, 5, 4, 96, 46, 182, 0, 248, 54, 7, 44, 182, 0, 212, 21, 6, 159, 0, 5, 3, 172, 21, 6, 154, 0, 15, 45, 3, 47, 21, 7, 133, 148, 153, 0, 5, 3, 172, 167, 10, 205, 43, 42, 21, 5, 4, 96, 46, 42, 21, 5, 5, 96, 46, 45, 184, 0, 249, 54, 6, 44, 42, 21, 5, 4, 96, 46, 42, 21, 5, 5, 96, 46, 182, 0, 251, 54, 7, 44, 182, 0, 212, 21, 6, 159, 0, 5]
theorem qm_L_law_e9 : (code.data.toList.drop 900).take qm_L_law_b9.data.toList.length = qm_L_law_b9.data.toList := by decide +kernel
theorem qm_L_law_k9 : qa_rng 0 100 (qd_chk 900 qm_L_law_b9 qm_L_law_c) = true := by decide +kernel
def qm_L_law_b10 : ByteArray := .mk #[212, 21, 6, 159, 0, 5, 3, 172, 21, 6, 154, 0, 15, 45, 3, 47, 21, 7, 133, 148, 153, 0, 5, 3, 172, 167, 10, 137, 43, 42, 21, 5, 4, 96, 46, 45, 184, 0, 252, 54, 6, 44, 42, 21, 5, 4, 96, 46, 182, 0, 254, 54, 7, 44, 182, 0, 212, 21, 6, 159, 0, 5, 3, 172, 21, 6, 154, 0, 15, 45, 3, 47, 21, 7, 133, 148, 153, 0, 5, 3, 172, 167, 10, 81, 43, 42, 21, 5, 4, 96, 46, 45, 184, 0, 255, 54, 6, 44, 42, 21, 5, 4, 96, 46, 182, 1]
theorem qm_L_law_e10 : (code.data.toList.drop 1000).take qm_L_law_b10.data.toList.length = qm_L_law_b10.data.toList := by decide +kernel
theorem qm_L_law_k10 : qa_rng 0 100 (qd_chk 1000 qm_L_law_b10 qm_L_law_c) = true := by decide +kernel
def qm_L_law_b11 : ByteArray := .mk #[5, 4, 96, 46, 182, 1, 1, 55, 7, 44, 182, 0, 212, 21, 6, 159, 0, 5, 3, 172, 21, 6, 154, 0, 14, 45, 3, 47, 22, 7, 148, 153, 0, 5, 3, 172, 167, 10, 26, 43, 45, 184, 1, 2, 54, 6, 44, 182, 1, 4, 54, 7, 44, 182, 0, 212, 21, 6, 159, 0, 5, 3, 172, 21, 6, 154, 0, 15, 45, 3, 47, 21, 7, 133, 148, 153, 0, 5, 3, 172, 167, 9, 238, 43, 45, 184, 1, 5, 54, 6, 44, 182, 1, 7, 54, 7, 44, 182, 0, 212, 21, 6, 159, 0, 5, 3]
theorem qm_L_law_e11 : (code.data.toList.drop 1100).take qm_L_law_b11.data.toList.length = qm_L_law_b11.data.toList := by decide +kernel
theorem qm_L_law_k11 : qa_rng 0 100 (qd_chk 1100 qm_L_law_b11 qm_L_law_c) = true := by decide +kernel
def qm_L_law_b12 : ByteArray := .mk #[21, 6, 159, 0, 5, 3, 172, 21, 6, 154, 0, 15, 45, 3, 47, 21, 7, 133, 148, 153, 0, 5, 3, 172, 167, 9, 194, 43, 42, 21, 5, 4, 96, 46, 45, 184, 1, 8, 54, 6, 44, 42, 21, 5, 4, 96, 46, 182, 1, 10, 54, 7, 44, 182, 0, 212, 21, 6, 159, 0, 5, 3, 172, 21, 6, 154, 0, 15, 45, 3, 47, 21, 7, 133, 148, 153, 0, 5, 3, 172, 167, 9, 138, 43, 42, 21, 5, 4, 96, 46, 45, 184, 1, 11, 54, 6, 44, 42, 21, 5, 4, 96, 46, 182, 1, 13]
theorem qm_L_law_e12 : (code.data.toList.drop 1200).take qm_L_law_b12.data.toList.length = qm_L_law_b12.data.toList := by decide +kernel
theorem qm_L_law_k12 : qa_rng 0 100 (qd_chk 1200 qm_L_law_b12 qm_L_law_c) = true := by decide +kernel
def qm_L_law_b13 : ByteArray := .mk #[4, 96, 46, 182, 1, 13, 54, 7, 44, 182, 0, 212, 21, 6, 159, 0, 5, 3, 172, 21, 6, 154, 0, 15, 45, 3, 47, 21, 7, 133, 148, 153, 0, 5, 3, 172, 167, 9, 82, 43, 42, 21, 5, 4, 96, 46, 42, 21, 5, 5, 96, 46, 45, 184, 1, 14, 54, 6, 44, 42, 21, 5, 4, 96, 46, 42, 21, 5, 5, 96, 46, 182, 1, 16, 54, 7, 44, 182, 0, 212, 21, 6, 159, 0, 5, 3, 172, 21, 6, 154, 0, 15, 45, 3, 47, 21, 7, 133, 148, 153, 0, 5, 3, 172, 167, 9]
theorem qm_L_law_e13 : (code.data.toList.drop 1300).take qm_L_law_b13.data.toList.length = qm_L_law_b13.data.toList := by decide +kernel
theorem qm_L_law_k13 : qa_rng 0 100 (qd_chk 1300 qm_L_law_b13 qm_L_law_c) = true := by decide +kernel
def qm_L_law_b14 : ByteArray := .mk #[0, 5, 3, 172, 167, 9, 14, 43, 42, 21, 5, 4, 96, 46, 42, 21, 5, 5, 96, 46, 45, 184, 1, 17, 54, 6, 44, 42, 21, 5, 4, 96, 46, 42, 21, 5, 5, 96, 46, 182, 1, 19, 54, 7, 44, 182, 0, 212, 21, 6, 159, 0, 5, 3, 172, 21, 6, 154, 0, 15, 45, 3, 47, 21, 7, 133, 148, 153, 0, 5, 3, 172, 167, 8, 202, 43, 42, 21, 5, 4, 96, 46, 42, 21, 5, 5, 96, 46, 42, 21, 5, 6, 96, 46, 45, 184, 1, 20, 54, 6, 44, 42, 21, 5, 4, 96]
theorem qm_L_law_e14 : (code.data.toList.drop 1400).take qm_L_law_b14.data.toList.length = qm_L_law_b14.data.toList := by decide +kernel
theorem qm_L_law_k14 : qa_rng 0 100 (qd_chk 1400 qm_L_law_b14 qm_L_law_c) = true := by decide +kernel
def qm_L_law_b15 : ByteArray := .mk #[44, 42, 21, 5, 4, 96, 46, 42, 21, 5, 5, 96, 46, 42, 21, 5, 6, 96, 46, 182, 1, 22, 54, 7, 44, 182, 0, 212, 21, 6, 159, 0, 5, 3, 172, 21, 6, 154, 0, 15, 45, 3, 47, 21, 7, 133, 148, 153, 0, 5, 3, 172, 167, 8, 122, 43, 42, 21, 5, 4, 96, 46, 45, 184, 1, 23, 54, 6, 44, 42, 21, 5, 4, 96, 46, 182, 1, 25, 54, 7, 44, 182, 0, 212, 21, 6, 159, 0, 5, 3, 172, 21, 6, 154, 0, 15, 45, 3, 47, 21, 7, 133, 148, 153, 0, 5]
theorem qm_L_law_e15 : (code.data.toList.drop 1500).take qm_L_law_b15.data.toList.length = qm_L_law_b15.data.toList := by decide +kernel
theorem qm_L_law_k15 : qa_rng 0 100 (qd_chk 1500 qm_L_law_b15 qm_L_law_c) = true := by decide +kernel
def qm_L_law_b16 : ByteArray := .mk #[7, 133, 148, 153, 0, 5, 3, 172, 167, 8, 66, 43, 42, 21, 5, 4, 96, 46, 45, 184, 1, 26, 54, 6, 44, 42, 21, 5, 4, 96, 46, 182, 1, 28, 54, 7, 44, 182, 0, 212, 21, 6, 159, 0, 5, 3, 172, 21, 6, 154, 0, 15, 45, 3, 47, 21, 7, 133, 148, 153, 0, 5, 3, 172, 167, 8, 10, 43, 42, 21, 5, 4, 96, 46, 42, 21, 5, 5, 96, 46, 45, 184, 1, 29, 54, 6, 44, 42, 21, 5, 4, 96, 46, 42, 21, 5, 5, 96, 46, 182, 1, 31, 54, 7, 44, 182]
theorem qm_L_law_e16 : (code.data.toList.drop 1600).take qm_L_law_b16.data.toList.length = qm_L_law_b16.data.toList := by decide +kernel
theorem qm_L_law_k16 : qa_rng 0 100 (qd_chk 1600 qm_L_law_b16 qm_L_law_c) = true := by decide +kernel
def qm_L_law_b17 : ByteArray := .mk #[1, 31, 54, 7, 44, 182, 0, 212, 21, 6, 159, 0, 5, 3, 172, 21, 6, 154, 0, 15, 45, 3, 47, 21, 7, 133, 148, 153, 0, 5, 3, 172, 167, 7, 198, 43, 42, 21, 5, 4, 96, 46, 42, 21, 5, 5, 96, 46, 45, 184, 1, 32, 54, 6, 44, 42, 21, 5, 4, 96, 46, 42, 21, 5, 5, 96, 46, 182, 1, 34, 54, 7, 44, 182, 0, 212, 21, 6, 159, 0, 5, 3, 172, 21, 6, 154, 0, 15, 45, 3, 47, 21, 7, 133, 148, 153, 0, 5, 3, 172, 167, 7, 130, 43, 42, 21]
theorem qm_L_law_e17 : (code.data.toList.drop 1700).take qm_L_law_b17.data.toList.length = qm_L_law_b17.data.toList := by decide +kernel
theorem qm_L_law_k17 : qa_rng 0 100 (qd_chk 1700 qm_L_law_b17 qm_L_law_c) = true := by decide +kernel
def qm_L_law_b18 : ByteArray := .mk #[167, 7, 130, 43, 42, 21, 5, 4, 96, 46, 42, 21, 5, 5, 96, 46, 45, 184, 1, 35, 54, 6, 44, 42, 21, 5, 4, 96, 46, 42, 21, 5, 5, 96, 46, 182, 1, 37, 54, 7, 44, 182, 0, 212, 21, 6, 159, 0, 5, 3, 172, 21, 6, 154, 0, 15, 45, 3, 47, 21, 7, 133, 148, 153, 0, 5, 3, 172, 167, 7, 62, 43, 42, 21, 5, 4, 96, 46, 42, 21, 5, 5, 96, 46, 45, 184, 1, 38, 54, 6, 44, 42, 21, 5, 4, 96, 46, 42, 21, 5, 5, 96, 46, 182, 1, 40]
theorem qm_L_law_e18 : (code.data.toList.drop 1800).take qm_L_law_b18.data.toList.length = qm_L_law_b18.data.toList := by decide +kernel
theorem qm_L_law_k18 : qa_rng 0 100 (qd_chk 1800 qm_L_law_b18 qm_L_law_c) = true := by decide +kernel
def qm_L_law_b19 : ByteArray := .mk #[5, 96, 46, 182, 1, 40, 54, 7, 44, 182, 0, 212, 21, 6, 159, 0, 5, 3, 172, 21, 6, 154, 0, 15, 45, 3, 47, 21, 7, 133, 148, 153, 0, 5, 3, 172, 167, 6, 250, 43, 42, 21, 5, 4, 96, 46, 42, 21, 5, 5, 96, 46, 45, 184, 1, 41, 54, 6, 44, 42, 21, 5, 4, 96, 46, 42, 21, 5, 5, 96, 46, 182, 1, 43, 54, 7, 44, 182, 0, 212, 21, 6, 159, 0, 5, 3, 172, 21, 6, 154, 0, 15, 45, 3, 47, 21, 7, 133, 148, 153, 0, 5, 3, 172, 167, 6]
theorem qm_L_law_e19 : (code.data.toList.drop 1900).take qm_L_law_b19.data.toList.length = qm_L_law_b19.data.toList := by decide +kernel
theorem qm_L_law_k19 : qa_rng 0 100 (qd_chk 1900 qm_L_law_b19 qm_L_law_c) = true := by decide +kernel
def qm_L_law_b20 : ByteArray := .mk #[0, 5, 3, 172, 167, 6, 182, 43, 42, 21, 5, 4, 96, 46, 45, 184, 1, 44, 54, 6, 44, 42, 21, 5, 4, 96, 46, 182, 1, 46, 54, 7, 44, 182, 0, 212, 21, 6, 159, 0, 5, 3, 172, 21, 6, 154, 0, 15, 45, 3, 47, 21, 7, 133, 148, 153, 0, 5, 3, 172, 167, 6, 126, 43, 42, 21, 5, 4, 96, 46, 42, 21, 5, 5, 96, 46, 45, 184, 1, 47, 54, 6, 44, 42, 21, 5, 4, 96, 46, 42, 21, 5, 5, 96, 46, 182, 1, 49, 54, 7, 44, 182, 0, 212, 21, 6]
theorem qm_L_law_e20 : (code.data.toList.drop 2000).take qm_L_law_b20.data.toList.length = qm_L_law_b20.data.toList := by decide +kernel
theorem qm_L_law_k20 : qa_rng 0 100 (qd_chk 2000 qm_L_law_b20 qm_L_law_c) = true := by decide +kernel
def qm_L_law_b21 : ByteArray := .mk #[44, 182, 0, 212, 21, 6, 159, 0, 5, 3, 172, 21, 6, 154, 0, 15, 45, 3, 47, 21, 7, 133, 148, 153, 0, 5, 3, 172, 167, 6, 58, 43, 42, 21, 5, 4, 96, 46, 45, 184, 1, 50, 54, 6, 44, 42, 21, 5, 4, 96, 46, 182, 1, 52, 54, 7, 44, 182, 0, 212, 21, 6, 159, 0, 5, 3, 172, 21, 6, 154, 0, 15, 45, 3, 47, 21, 7, 133, 148, 153, 0, 5, 3, 172, 167, 6, 2, 43, 42, 21, 5, 4, 96, 46, 45, 184, 1, 53, 54, 6, 44, 42, 21, 5, 4, 96]
theorem qm_L_law_e21 : (code.data.toList.drop 2100).take qm_L_law_b21.data.toList.length = qm_L_law_b21.data.toList := by decide +kernel
theorem qm_L_law_k21 : qa_rng 0 100 (qd_chk 2100 qm_L_law_b21 qm_L_law_c) = true := by decide +kernel
def qm_L_law_b22 : ByteArray := .mk #[44, 42, 21, 5, 4, 96, 46, 182, 1, 55, 54, 7, 44, 182, 0, 212, 21, 6, 159, 0, 5, 3, 172, 21, 6, 154, 0, 15, 45, 3, 47, 21, 7, 133, 148, 153, 0, 5, 3, 172, 167, 5, 202, 43, 42, 21, 5, 4, 96, 46, 45, 184, 1, 56, 54, 6, 44, 42, 21, 5, 4, 96, 46, 182, 1, 58, 54, 7, 44, 182, 0, 212, 21, 6, 159, 0, 5, 3, 172, 21, 6, 154, 0, 15, 45, 3, 47, 21, 7, 133, 148, 153, 0, 5, 3, 172, 167, 5, 146, 43, 42, 21, 5, 4, 96, 46]
theorem qm_L_law_e22 : (code.data.toList.drop 2200).take qm_L_law_b22.data.toList.length = qm_L_law_b22.data.toList := by decide +kernel
theorem qm_L_law_k22 : qa_rng 0 100 (qd_chk 2200 qm_L_law_b22 qm_L_law_c) = true := by decide +kernel
def qm_L_law_b23 : ByteArray := .mk #[42, 21, 5, 4, 96, 46, 45, 184, 1, 59, 54, 6, 44, 42, 21, 5, 4, 96, 46, 182, 1, 61, 54, 7, 44, 182, 0, 212, 21, 6, 159, 0, 5, 3, 172, 21, 6, 154, 0, 15, 45, 3, 47, 21, 7, 133, 148, 153, 0, 5, 3, 172, 167, 5, 90, 43, 42, 21, 5, 4, 96, 46, 45, 184, 1, 62, 54, 6, 44, 42, 21, 5, 4, 96, 46, 182, 1, 64, 54, 7, 44, 182, 0, 212, 21, 6, 159, 0, 5, 3, 172, 21, 6, 154, 0, 15, 45, 3, 47, 21, 7, 133, 148, 153, 0, 5]
theorem qm_L_law_e23 : (code.data.toList.drop 2300).take qm_L_law_b23.data.toList.length = qm_L_law_b23.data.toList := by decide +kernel
theorem qm_L_law_k23 : qa_rng 0 100 (qd_chk 2300 qm_L_law_b23 qm_L_law_c) = true := by decide +kernel
def qm_L_law_b24 : ByteArray := .mk #[7, 133, 148, 153, 0, 5, 3, 172, 167, 5, 34, 43, 42, 21, 5, 4, 96, 46, 45, 184, 1, 65, 54, 6, 44, 42, 21, 5, 4, 96, 46, 182, 1, 67, 54, 7, 44, 182, 0, 212, 21, 6, 159, 0, 5, 3, 172, 21, 6, 154, 0, 15, 45, 3, 47, 21, 7, 133, 148, 153, 0, 5, 3, 172, 167, 4, 234, 43, 182, 1, 68, 44, 182, 1, 71, 159, 4, 223, 3, 172, 43, 42, 21, 5, 4, 96, 46, 45, 184, 1, 72, 54, 6, 44, 42, 21, 5, 4, 96, 46, 182, 1, 74, 54, 7, 44]
theorem qm_L_law_e24 : (code.data.toList.drop 2400).take qm_L_law_b24.data.toList.length = qm_L_law_b24.data.toList := by decide +kernel
theorem qm_L_law_k24 : qa_rng 0 100 (qd_chk 2400 qm_L_law_b24 qm_L_law_c) = true := by decide +kernel
def qm_L_law_b25 : ByteArray := .mk #[182, 1, 74, 54, 7, 44, 182, 0, 212, 21, 6, 159, 0, 5, 3, 172, 21, 6, 154, 0, 15, 45, 3, 47, 21, 7, 133, 148, 153, 0, 5, 3, 172, 167, 4, 165, 43, 42, 21, 5, 4, 96, 46, 42, 21, 5, 5, 96, 46, 45, 184, 1, 75, 54, 6, 44, 42, 21, 5, 4, 96, 46, 42, 21, 5, 5, 96, 46, 182, 1, 77, 54, 7, 44, 182, 0, 212, 21, 6, 159, 0, 5, 3, 172, 21, 6, 154, 0, 15, 45, 3, 47, 21, 7, 133, 148, 153, 0, 5, 3, 172, 167, 4, 97, 43, 42]
theorem qm_L_law_e25 : (code.data.toList.drop 2500).take qm_L_law_b25.data.toList.length = qm_L_law_b25.data.toList := by decide +kernel
theorem qm_L_law_k25 : qa_rng 0 100 (qd_chk 2500 qm_L_law_b25 qm_L_law_c) = true := by decide +kernel
def qm_L_law_b26 : ByteArray := .mk #[172, 167, 4, 97, 43, 42, 21, 5, 4, 96, 46, 45, 184, 1, 78, 54, 6, 44, 42, 21, 5, 4, 96, 46, 182, 1, 80, 54, 7, 44, 182, 0, 212, 21, 6, 159, 0, 5, 3, 172, 21, 6, 154, 0, 15, 45, 3, 47, 21, 7, 133, 148, 153, 0, 5, 3, 172, 167, 4, 41, 43, 42, 21, 5, 4, 96, 46, 45, 184, 1, 81, 54, 6, 44, 42, 21, 5, 4, 96, 46, 182, 1, 83, 55, 7, 44, 182, 0, 212, 21, 6, 159, 0, 5, 3, 172, 21, 6, 154, 0, 14, 45, 3, 47, 22, 7]
theorem qm_L_law_e26 : (code.data.toList.drop 2600).take qm_L_law_b26.data.toList.length = qm_L_law_b26.data.toList := by decide +kernel
theorem qm_L_law_k26 : qa_rng 0 100 (qd_chk 2600 qm_L_law_b26 qm_L_law_c) = true := by decide +kernel
def qm_L_law_b27 : ByteArray := .mk #[14, 45, 3, 47, 22, 7, 148, 153, 0, 5, 3, 172, 167, 3, 242, 43, 42, 21, 5, 4, 96, 46, 45, 184, 1, 84, 54, 6, 44, 42, 21, 5, 4, 96, 46, 182, 1, 86, 55, 7, 44, 182, 0, 212, 21, 6, 159, 0, 5, 3, 172, 21, 6, 154, 0, 14, 45, 3, 47, 22, 7, 148, 153, 0, 5, 3, 172, 167, 3, 187, 43, 42, 21, 5, 4, 96, 46, 45, 184, 1, 87, 54, 6, 44, 42, 21, 5, 4, 96, 46, 182, 1, 89, 54, 7, 44, 182, 0, 212, 21, 6, 159, 0, 5, 3, 172]
theorem qm_L_law_e27 : (code.data.toList.drop 2700).take qm_L_law_b27.data.toList.length = qm_L_law_b27.data.toList := by decide +kernel
theorem qm_L_law_k27 : qa_rng 0 100 (qd_chk 2700 qm_L_law_b27 qm_L_law_c) = true := by decide +kernel
def qm_L_law_b28 : ByteArray := .mk #[6, 159, 0, 5, 3, 172, 21, 6, 154, 0, 15, 45, 3, 47, 21, 7, 133, 148, 153, 0, 5, 3, 172, 167, 3, 131, 43, 182, 1, 90, 44, 182, 1, 93, 159, 3, 120, 3, 172, 43, 42, 21, 5, 4, 96, 46, 45, 184, 1, 94, 54, 6, 44, 42, 21, 5, 4, 96, 46, 182, 1, 96, 54, 7, 44, 182, 0, 212, 21, 6, 159, 0, 5, 3, 172, 21, 6, 154, 0, 15, 45, 3, 47, 21, 7, 133, 148, 153, 0, 5, 3, 172, 167, 3, 62, 43, 42, 21, 5, 4, 96, 46, 45, 184, 1, 97]
theorem qm_L_law_e28 : (code.data.toList.drop 2800).take qm_L_law_b28.data.toList.length = qm_L_law_b28.data.toList := by decide +kernel
theorem qm_L_law_k28 : qa_rng 0 100 (qd_chk 2800 qm_L_law_b28 qm_L_law_c) = true := by decide +kernel
def qm_L_law_b29 : ByteArray := .mk #[96, 46, 45, 184, 1, 97, 54, 6, 44, 42, 21, 5, 4, 96, 46, 182, 1, 99, 54, 7, 44, 182, 0, 212, 21, 6, 159, 0, 5, 3, 172, 21, 6, 154, 0, 15, 45, 3, 47, 21, 7, 133, 148, 153, 0, 5, 3, 172, 167, 3, 6, 43, 42, 21, 5, 4, 96, 46, 45, 184, 1, 100, 54, 6, 44, 42, 21, 5, 4, 96, 46, 182, 1, 102, 54, 7, 44, 182, 0, 212, 21, 6, 159, 0, 5, 3, 172, 21, 6, 154, 0, 15, 45, 3, 47, 21, 7, 133, 148, 153, 0, 5, 3, 172, 167, 2]
theorem qm_L_law_e29 : (code.data.toList.drop 2900).take qm_L_law_b29.data.toList.length = qm_L_law_b29.data.toList := by decide +kernel
theorem qm_L_law_k29 : qa_rng 0 100 (qd_chk 2900 qm_L_law_b29 qm_L_law_c) = true := by decide +kernel
def qm_L_law_b30 : ByteArray := .mk #[0, 5, 3, 172, 167, 2, 206, 43, 42, 21, 5, 4, 96, 46, 25, 4, 184, 1, 103, 54, 6, 44, 42, 21, 5, 4, 96, 46, 182, 1, 106, 57, 7, 44, 182, 0, 212, 21, 6, 159, 0, 5, 3, 172, 21, 6, 154, 0, 35, 25, 4, 3, 49, 24, 7, 151, 153, 0, 25, 25, 4, 3, 49, 25, 4, 3, 49, 151, 153, 0, 11, 24, 7, 24, 7, 151, 154, 0, 5, 3, 172, 167, 2, 129, 43, 42, 21, 5, 4, 96, 46, 25, 4, 184, 1, 107, 54, 6, 44, 42, 21, 5, 4, 96, 46, 182]
theorem qm_L_law_e30 : (code.data.toList.drop 3000).take qm_L_law_b30.data.toList.length = qm_L_law_b30.data.toList := by decide +kernel
theorem qm_L_law_k30 : qa_rng 0 100 (qd_chk 3000 qm_L_law_b30 qm_L_law_c) = true := by decide +kernel
def qm_L_law_b31 : ByteArray := .mk #[21, 5, 4, 96, 46, 182, 1, 109, 56, 7, 44, 182, 0, 212, 21, 6, 159, 0, 5, 3, 172, 21, 6, 154, 0, 36, 25, 4, 3, 49, 23, 7, 141, 151, 153, 0, 25, 25, 4, 3, 49, 25, 4, 3, 49, 151, 153, 0, 11, 23, 7, 23, 7, 149, 154, 0, 5, 3, 172, 167, 2, 51, 43, 42, 21, 5, 4, 96, 46, 45, 184, 1, 110, 54, 6, 44, 42, 21, 5, 4, 96, 46, 182, 1, 112, 54, 7, 44, 182, 0, 212, 21, 6, 159, 0, 5, 3, 172, 21, 6, 154, 0, 15, 45, 3, 47]
theorem qm_L_law_e31 : (code.data.toList.drop 3100).take qm_L_law_b31.data.toList.length = qm_L_law_b31.data.toList := by decide +kernel
theorem qm_L_law_k31 : qa_rng 0 100 (qd_chk 3100 qm_L_law_b31 qm_L_law_c) = true := by decide +kernel
def qm_L_law_b32 : ByteArray := .mk #[154, 0, 15, 45, 3, 47, 21, 7, 133, 148, 153, 0, 5, 3, 172, 167, 1, 251, 43, 182, 1, 113, 44, 182, 1, 117, 159, 1, 240, 3, 172, 43, 42, 21, 5, 4, 96, 46, 45, 184, 1, 118, 54, 6, 44, 42, 21, 5, 4, 96, 46, 182, 1, 120, 54, 7, 44, 182, 0, 212, 21, 6, 159, 0, 5, 3, 172, 21, 6, 154, 0, 15, 45, 3, 47, 21, 7, 133, 148, 153, 0, 5, 3, 172, 167, 1, 182, 43, 42, 21, 5, 4, 96, 46, 45, 184, 1, 121, 54, 6, 44, 42, 21, 5, 4, 96]
theorem qm_L_law_e32 : (code.data.toList.drop 3200).take qm_L_law_b32.data.toList.length = qm_L_law_b32.data.toList := by decide +kernel
theorem qm_L_law_k32 : qa_rng 0 100 (qd_chk 3200 qm_L_law_b32 qm_L_law_c) = true := by decide +kernel
def qm_L_law_b33 : ByteArray := .mk #[44, 42, 21, 5, 4, 96, 46, 182, 1, 123, 54, 7, 44, 182, 0, 212, 21, 6, 159, 0, 5, 3, 172, 21, 6, 154, 0, 15, 45, 3, 47, 21, 7, 133, 148, 153, 0, 5, 3, 172, 167, 1, 126, 43, 42, 21, 5, 4, 96, 46, 146, 45, 184, 1, 124, 54, 6, 44, 42, 21, 5, 4, 96, 46, 146, 182, 1, 127, 54, 7, 44, 182, 0, 212, 21, 6, 159, 0, 5, 3, 172, 21, 6, 154, 0, 15, 45, 3, 47, 21, 7, 133, 148, 153, 0, 5, 3, 172, 167, 1, 68, 43, 45, 184, 1, 128]
theorem qm_L_law_e33 : (code.data.toList.drop 3300).take qm_L_law_b33.data.toList.length = qm_L_law_b33.data.toList := by decide +kernel
theorem qm_L_law_k33 : qa_rng 0 100 (qd_chk 3300 qm_L_law_b33 qm_L_law_c) = true := by decide +kernel
def qm_L_law_b34 : ByteArray := .mk #[68, 43, 45, 184, 1, 128, 54, 6, 44, 182, 1, 130, 54, 7, 44, 182, 0, 212, 21, 6, 159, 0, 5, 3, 172, 21, 6, 154, 0, 15, 45, 3, 47, 21, 7, 133, 148, 153, 0, 5, 3, 172, 167, 1, 24, 43, 45, 184, 1, 131, 54, 6, 44, 182, 1, 133, 54, 7, 44, 182, 0, 212, 21, 6, 159, 0, 5, 3, 172, 21, 6, 154, 0, 15, 45, 3, 47, 21, 7, 133, 148, 153, 0, 5, 3, 172, 167, 0, 236, 43, 45, 184, 1, 134, 54, 6, 44, 182, 1, 136, 54, 7, 44, 182, 0, 212]
theorem qm_L_law_e34 : (code.data.toList.drop 3400).take qm_L_law_b34.data.toList.length = qm_L_law_b34.data.toList := by decide +kernel
theorem qm_L_law_k34 : qa_rng 0 100 (qd_chk 3400 qm_L_law_b34 qm_L_law_c) = true := by decide +kernel
def qm_L_law_b35 : ByteArray := .mk #[54, 7, 44, 182, 0, 212, 21, 6, 159, 0, 5, 3, 172, 21, 6, 154, 0, 15, 45, 3, 47, 21, 7, 133, 148, 153, 0, 5, 3, 172, 167, 0, 192, 43, 45, 184, 1, 137, 54, 6, 44, 182, 1, 139, 54, 7, 44, 182, 0, 212, 21, 6, 159, 0, 5, 3, 172, 21, 6, 154, 0, 15, 45, 3, 47, 21, 7, 133, 148, 153, 0, 5, 3, 172, 167, 0, 148, 43, 45, 184, 1, 140, 54, 6, 44, 182, 1, 142, 54, 7, 44, 182, 0, 212, 21, 6, 159, 0, 5, 3, 172, 21, 6, 154, 0, 15]
theorem qm_L_law_e35 : (code.data.toList.drop 3500).take qm_L_law_b35.data.toList.length = qm_L_law_b35.data.toList := by decide +kernel
theorem qm_L_law_k35 : qa_rng 0 100 (qd_chk 3500 qm_L_law_b35 qm_L_law_c) = true := by decide +kernel
def qm_L_law_b36 : ByteArray := .mk #[172, 21, 6, 154, 0, 15, 45, 3, 47, 21, 7, 133, 148, 153, 0, 5, 3, 172, 167, 0, 104, 43, 45, 184, 1, 143, 54, 6, 44, 182, 1, 145, 54, 7, 44, 182, 0, 212, 21, 6, 159, 0, 5, 3, 172, 21, 6, 154, 0, 15, 45, 3, 47, 21, 7, 133, 148, 153, 0, 5, 3, 172, 167, 0, 60, 43, 182, 1, 146, 44, 182, 1, 149, 159, 0, 49, 3, 172, 43, 45, 184, 1, 150, 54, 6, 44, 182, 1, 152, 54, 7, 44, 182, 0, 212, 21, 6, 159, 0, 5, 3, 172, 21, 6, 154, 0]
theorem qm_L_law_e36 : (code.data.toList.drop 3600).take qm_L_law_b36.data.toList.length = qm_L_law_b36.data.toList := by decide +kernel
theorem qm_L_law_k36 : qa_rng 0 100 (qd_chk 3600 qm_L_law_b36 qm_L_law_c) = true := by decide +kernel
def qm_L_law_b37 : ByteArray := .mk #[3, 172, 21, 6, 154, 0, 15, 45, 3, 47, 21, 7, 133, 148, 153, 0, 5, 3, 172, 167, 0, 3, 132, 5, 4, 167, 241, 143, 4, 172]
theorem qm_L_law_e37 : (code.data.toList.drop 3700).take qm_L_law_b37.data.toList.length = qm_L_law_b37.data.toList := by decide +kernel
theorem qm_L_law_k37 : qa_rng 0 30 (qd_chk 3700 qm_L_law_b37 qm_L_law_c) = true := by decide +kernel
theorem qm_L_law_ok : qa_OK qm_L_law := by
  refine qa_OK_ofs (n := 3730) (f := qm_L_law_c) rfl (fun p hp => ?_)
  show qa_chk code qm_L_law_c p = true
  by_cases h0 : p < 100
  · exact qa_rng_of qm_L_law_k0 (by omega) (by omega)
  by_cases h1 : p < 200
  · exact qd_rng qm_L_law_e1 qm_L_law_k1 (by omega) (by omega)
  by_cases h2 : p < 300
  · exact qd_rng qm_L_law_e2 qm_L_law_k2 (by omega) (by omega)
  by_cases h3 : p < 400
  · exact qd_rng qm_L_law_e3 qm_L_law_k3 (by omega) (by omega)
  by_cases h4 : p < 500
  · exact qd_rng qm_L_law_e4 qm_L_law_k4 (by omega) (by omega)
  by_cases h5 : p < 600
  · exact qd_rng qm_L_law_e5 qm_L_law_k5 (by omega) (by omega)
  by_cases h6 : p < 700
  · exact qd_rng qm_L_law_e6 qm_L_law_k6 (by omega) (by omega)
  by_cases h7 : p < 800
  · exact qd_rng qm_L_law_e7 qm_L_law_k7 (by omega) (by omega)
  by_cases h8 : p < 900
  · exact qd_rng qm_L_law_e8 qm_L_law_k8 (by omega) (by omega)
  by_cases h9 : p < 1000
  · exact qd_rng qm_L_law_e9 qm_L_law_k9 (by omega) (by omega)
  by_cases h10 : p < 1100
  · exact qd_rng qm_L_law_e10 qm_L_law_k10 (by omega) (by omega)
  by_cases h11 : p < 1200
  · exact qd_rng qm_L_law_e11 qm_L_law_k11 (by omega) (by omega)
  by_cases h12 : p < 1300
  · exact qd_rng qm_L_law_e12 qm_L_law_k12 (by omega) (by omega)
  by_cases h13 : p < 1400
  · exact qd_rng qm_L_law_e13 qm_L_law_k13 (by omega) (by omega)
  by_cases h14 : p < 1500
  · exact qd_rng qm_L_law_e14 qm_L_law_k14 (by omega) (by omega)
  by_cases h15 : p < 1600
  · exact qd_rng qm_L_law_e15 qm_L_law_k15 (by omega) (by omega)
  by_cases h16 : p < 1700
  · exact qd_rng qm_L_law_e16 qm_L_law_k16 (by omega) (by omega)
  by_cases h17 : p < 1800
  · exact qd_rng qm_L_law_e17 qm_L_law_k17 (by omega) (by omega)
  by_cases h18 : p < 1900
  · exact qd_rng qm_L_law_e18 qm_L_law_k18 (by omega) (by omega)
  by_cases h19 : p < 2000
  · exact qd_rng qm_L_law_e19 qm_L_law_k19 (by omega) (by omega)
  by_cases h20 : p < 2100
  · exact qd_rng qm_L_law_e20 qm_L_law_k20 (by omega) (by omega)
  by_cases h21 : p < 2200
  · exact qd_rng qm_L_law_e21 qm_L_law_k21 (by omega) (by omega)
  by_cases h22 : p < 2300
  · exact qd_rng qm_L_law_e22 qm_L_law_k22 (by omega) (by omega)
  by_cases h23 : p < 2400
  · exact qd_rng qm_L_law_e23 qm_L_law_k23 (by omega) (by omega)
  by_cases h24 : p < 2500
  · exact qd_rng qm_L_law_e24 qm_L_law_k24 (by omega) (by omega)
  by_cases h25 : p < 2600
  · exact qd_rng qm_L_law_e25 qm_L_law_k25 (by omega) (by omega)
  by_cases h26 : p < 2700
  · exact qd_rng qm_L_law_e26 qm_L_law_k26 (by omega) (by omega)
  by_cases h27 : p < 2800
  · exact qd_rng qm_L_law_e27 qm_L_law_k27 (by omega) (by omega)
  by_cases h28 : p < 2900
  · exact qd_rng qm_L_law_e28 qm_L_law_k28 (by omega) (by omega)
  by_cases h29 : p < 3000
  · exact qd_rng qm_L_law_e29 qm_L_law_k29 (by omega) (by omega)
  by_cases h30 : p < 3100
  · exact qd_rng qm_L_law_e30 qm_L_law_k30 (by omega) (by omega)
  by_cases h31 : p < 3200
  · exact qd_rng qm_L_law_e31 qm_L_law_k31 (by omega) (by omega)
  by_cases h32 : p < 3300
  · exact qd_rng qm_L_law_e32 qm_L_law_k32 (by omega) (by omega)
  by_cases h33 : p < 3400
  · exact qd_rng qm_L_law_e33 qm_L_law_k33 (by omega) (by omega)
  by_cases h34 : p < 3500
  · exact qd_rng qm_L_law_e34 qm_L_law_k34 (by omega) (by omega)
  by_cases h35 : p < 3600
  · exact qd_rng qm_L_law_e35 qm_L_law_k35 (by omega) (by omega)
  by_cases h36 : p < 3700
  · exact qd_rng qm_L_law_e36 qm_L_law_k36 (by omega) (by omega)
  exact qd_rng qm_L_law_e37 qm_L_law_k37 (by omega) (by omega)
