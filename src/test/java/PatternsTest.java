/** Promises 18 to 21: patterns. */
final class PatternsTest {
    static void run(Check c) {
        periods(c);
        allPeriods(c);
        themes(c);
        allThemes(c);
    }

    private static void duePeriod(Check c, int want, String notes) {
        CutleryOrchestra x = Check.withParts(1);
        Check.add(x, 0, notes);
        c.due("18 " + notes, want, x.period(0));
        c.due("19 " + notes, want, x.periodByTrying(0));
    }

    private static void periods(Check c) {
        duePeriod(c, 1, "1*1");
        duePeriod(c, 1, "-*4 -*4 -*4");
        duePeriod(c, 1, "7*2 7*2 7*2 7*2 7*2 7*2 7*2 7*2 7*2 7*2");
        duePeriod(c, 2, "1*1 2*1");
        duePeriod(c, 2, "1*1 2*1 1*1");
        duePeriod(c, 2, "1*1 1*2 1*1 1*2 1*1");
        duePeriod(c, 3, "1*1 1*1 2*1 1*1 1*1 2*1 1*1 1*1 2*1 1*1");
        duePeriod(c, 3, "1*1 1*1 2*1");
        duePeriod(c, 4, "1*1 1*1 1*1 -*1 1*1 1*1 1*1 -*1 1*1 1*1");
        duePeriod(c, 9, "1*1 1*1 1*1 -*1 1*1 1*1 1*1 -*1 -*1 1*1");
        duePeriod(c, 5, "1*1 2*1 1*1 2*1 3*1 1*1 2*1 1*1 2*1 3*1");
        duePeriod(c, 10, "1*1 2*1 1*1 2*1 3*1 1*1 2*1 1*1 2*1 2*1");
        duePeriod(c, 2, "0*1 -*1 0*1 -*1");
        duePeriod(c, 7, "5*1 6*1 5*1 5*1 6*1 6*1 5*1 5*1 6*1 5*1");
        CutleryOrchestra x = Check.withParts(1);
        c.thrown("18 no notes", Check.ELEMENT, () -> x.period(0));
        c.thrown("19 no notes", Check.ELEMENT, () -> x.periodByTrying(0));
        for (int part : new int[] {-1, 1, Integer.MAX_VALUE}) {
            c.thrown("18 no part", Check.INDEX, () -> x.period(part));
            c.thrown("19 no part", Check.INDEX, () -> x.periodByTrying(part));
        }
    }

    private static CutleryOrchestra withTwoNotes(int... choices) {
        CutleryOrchestra x = Check.withParts(choices.length);
        for (int part = 0; part < choices.length; part++) {
            // The highest bit tells how long the part is; each bit below it is a note or a rest.
            for (int bit = Integer.highestOneBit(choices[part]) >> 1; bit > 0; bit >>= 1) {
                if ((choices[part] & bit) == 0) {
                    x.addRest(part, 3);
                } else {
                    x.addNote(part, 0, 3);
                }
            }
        }
        return x;
    }

    /** All parts of one to ten notes that are one note or one rest. */
    private static void allPeriods(Check c) {
        for (int choice = 2; choice < 2048; choice++) {
            String bits = Integer.toBinaryString(choice).substring(1);
            int due = 1;
            while (!bits.substring(due).equals(bits.substring(0, bits.length() - due))) {
                due++;
            }
            CutleryOrchestra x = withTwoNotes(choice);
            c.due("18 " + bits, due, x.period(0));
            c.due("19 " + bits, due, x.periodByTrying(0));
            c.due("52 " + bits, true, x.isConsistent());
        }
    }

    private static void dueTheme(Check c, int want, String one, String other) {
        CutleryOrchestra x = Check.withParts(2);
        Check.add(x, 0, one);
        Check.add(x, 1, other);
        c.due("20 " + one + " : " + other, want, x.commonTheme(0, 1));
        c.due("20 back " + one + " : " + other, want, x.commonTheme(1, 0));
        c.due("21 " + one + " : " + other, want, x.commonThemeByTrying(0, 1));
        c.due("21 back " + one + " : " + other, want, x.commonThemeByTrying(1, 0));
        c.due("20 itself", x.noteCount(0), x.commonTheme(0, 0));
        c.due("21 itself", x.noteCount(1), x.commonThemeByTrying(1, 1));
    }

    private static int theme(String one, String other) {
        if (one.isEmpty() || other.isEmpty()) {
            return 0;
        }
        if (one.charAt(0) == other.charAt(0)) {
            return 1 + theme(one.substring(1), other.substring(1));
        }
        return Math.max(theme(one.substring(1), other), theme(one, other.substring(1)));
    }

    /** All pairs of parts of at most five notes that are one note or one rest. */
    private static void allThemes(Check c) {
        for (int first = 1; first < 64; first++) {
            for (int second = 1; second < 64; second++) {
                String one = Integer.toBinaryString(first).substring(1);
                String other = Integer.toBinaryString(second).substring(1);
                int due = theme(one, other);
                CutleryOrchestra x = withTwoNotes(first, second);
                c.due("20 " + one + " " + other, due, x.commonTheme(0, 1));
                c.due("21 " + one + " " + other, due, x.commonThemeByTrying(0, 1));
            }
        }
    }

    private static void themes(Check c) {
        dueTheme(c, 0, "1*1", "1*2");
        dueTheme(c, 0, "0*1", "-*1");
        dueTheme(c, 1, "-*1", "-*1");
        dueTheme(c, 1, "1*1 2*1", "2*1 1*1");
        dueTheme(c, 2, "1*1 1*1", "1*1 1*1 1*1");
        dueTheme(c, 3, "1*1 2*1 3*1 4*1 5*1", "5*1 1*1 3*1 2*1 4*1");
        dueTheme(c, 4, "1*1 2*1 3*1 2*1 4*1 1*1 2*1", "2*1 4*1 3*1 1*1 2*1 1*1");
        dueTheme(c, 5, "1*1 -*1 2*1 -*1 3*1 -*1 4*1 -*1 5*1 -*1", "1*1 2*1 3*1 4*1 5*1 6*1 7*1 8*1 9*1 10*1");
        dueTheme(c, 10, "3*1 3*1 3*1 3*1 3*1 3*1 3*1 3*1 3*1 3*1", "3*1 3*1 3*1 3*1 3*1 3*1 3*1 3*1 3*1 3*1");
        CutleryOrchestra x = Check.withParts(2);
        c.due("20 no notes", 0, x.commonTheme(0, 1));
        c.due("21 no notes", 0, x.commonThemeByTrying(0, 1));
        x.addNote(0, 1, 1);
        c.due("20 one without notes", 0, x.commonTheme(0, 1));
        c.due("21 one without notes", 0, x.commonThemeByTrying(1, 0));
        for (int part : new int[] {-1, 2}) {
            c.thrown("20 no first", Check.INDEX, () -> x.commonTheme(part, 0));
            c.thrown("20 no second", Check.INDEX, () -> x.commonTheme(0, part));
            c.thrown("21 no first", Check.INDEX, () -> x.commonThemeByTrying(part, 0));
            c.thrown("21 no second", Check.INDEX, () -> x.commonThemeByTrying(0, part));
        }
        x.addNote(0, 2, 2);
        x.addNote(1, 2, 2);
        x.removeLast(0);
        c.due("20 removed note", 0, x.commonTheme(0, 1));
        c.due("21 removed note", 0, x.commonThemeByTrying(0, 1));
        // A longer table ahead must not shine through.
        CutleryOrchestra y = Check.withParts(3);
        Check.add(y, 0, "1*1 1*1 1*1 1*1 1*1");
        Check.add(y, 1, "1*1 1*1 1*1 1*1 1*1");
        Check.add(y, 2, "2*1 1*1");
        c.due("20 long", 5, y.commonTheme(0, 1));
        c.due("20 short after long", 1, y.commonTheme(2, 1));
    }
}
