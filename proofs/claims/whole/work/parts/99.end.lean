theorem qa_end : True := trivial
