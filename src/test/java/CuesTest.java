/** Promises 31 to 36: cues. */
final class CuesTest {
    static void run(Check c) {
        setCue(c);
        removeCue(c);
        ways(c);
        allWays(c);
    }

    private static void setCue(Check c) {
        CutleryOrchestra x = Check.withParts(4);
        c.due("31 first", 1, x.setCue(0, 1));
        c.due("31 second", 2, x.setCue(1, 0));
        c.due("31 third", 3, x.setCue(3, 0));
        c.due("31 in place", 3, x.setCue(3, 2));
        c.due("33 in place", 2, x.cueOf(3));
        c.due("33 first", 1, x.cueOf(0));
        c.rejected("31 same", x, CutleryOrchestra.SAME_CUE, 3, () -> x.setCue(3, 2));
        c.thrown("31 itself", Check.ARGUMENT, () -> x.setCue(2, 2));
        for (int part : new int[] {-1, 4, 5}) {
            c.thrown("31 no part", Check.INDEX, () -> x.setCue(part, 0));
            c.thrown("31 no other", Check.INDEX, () -> x.setCue(0, part));
            c.thrown("31 neither", Check.INDEX, () -> x.setCue(part, part));
        }
        c.thrown("33 none", Check.ELEMENT, () -> x.cueOf(2));
        c.thrown("33 no part", Check.INDEX, () -> x.cueOf(4));
        c.thrown("33 part -1", Check.INDEX, () -> x.cueOf(-1));
    }

    private static void removeCue(Check c) {
        CutleryOrchestra x = Check.withParts(3);
        x.setCue(0, 2);
        x.setCue(1, 2);
        c.due("32 first", 1, x.removeCue(0));
        c.thrown("32 gone", Check.ELEMENT, () -> x.cueOf(0));
        c.due("32 other stays", 2, x.cueOf(1));
        c.rejected("32 none", x, CutleryOrchestra.NO_CUE, 1, () -> x.removeCue(0));
        c.due("32 second", 0, x.removeCue(1));
        c.rejected("32 none at all", x, CutleryOrchestra.NO_CUE, 0, () -> x.removeCue(2));
        c.thrown("32 no part", Check.INDEX, () -> x.removeCue(3));
        c.thrown("32 part -1", Check.INDEX, () -> x.removeCue(-1));
        c.due("32 set again", 1, x.setCue(0, 2));
    }

    private static void dueWay(Check c, CutleryOrchestra x, int part, int depth, int circle) {
        if (depth < 0) {
            c.thrown("34 from " + part, Check.ELEMENT, () -> x.cueDepth(part));
        } else {
            c.due("34 from " + part, depth, x.cueDepth(part));
        }
        c.due("35 from " + part, circle, x.circleLength(part));
        c.due("36 from " + part, circle, x.circleLengthByMarks(part));
    }

    private static void ways(Check c) {
        CutleryOrchestra x = Check.withParts(5);
        dueWay(c, x, 0, 0, 0);
        for (int i = 0; i < 4; i++) {
            x.setCue(i, i + 1);
        }
        for (int i = 0; i < 5; i++) {
            dueWay(c, x, i, 4 - i, 0);
        }
        x.setCue(4, 0);
        for (int i = 0; i < 5; i++) {
            dueWay(c, x, i, -1, 5);
        }
        x.setCue(4, 3);
        for (int i = 0; i < 5; i++) {
            dueWay(c, x, i, -1, 2);
        }
        x.setCue(4, 2);
        for (int i = 0; i < 5; i++) {
            dueWay(c, x, i, -1, 3);
        }
        for (int part : new int[] {-1, 5}) {
            c.thrown("34 no part", Check.INDEX, () -> x.cueDepth(part));
            c.thrown("35 no part", Check.INDEX, () -> x.circleLength(part));
            c.thrown("36 no part", Check.INDEX, () -> x.circleLengthByMarks(part));
        }
    }

    /** All 3125 ways in which five parts can take cues or none. */
    private static void allWays(Check c) {
        for (int ways = 0; ways < 3125; ways++) {
            CutleryOrchestra x = Check.withParts(5);
            int[] cues = new int[5];
            int rest = ways;
            for (int i = 0; i < 5; i++) {
                cues[i] = rest % 5 == i ? -1 : rest % 5;
                rest /= 5;
                if (cues[i] >= 0) {
                    x.setCue(i, cues[i]);
                }
            }
            for (int i = 0; i < 5; i++) {
                dueWay(c, x, i, depth(cues, i), circle(cues, i));
            }
        }
    }

    private static int depth(int[] cues, int part) {
        int steps = 0;
        for (int at = part; cues[at] >= 0; at = cues[at]) {
            steps++;
            if (steps > 5) {
                return -1;
            }
        }
        return steps;
    }

    private static int circle(int[] cues, int part) {
        if (depth(cues, part) >= 0) {
            return 0;
        }
        int in = part;
        for (int i = 0; i < 5; i++) {
            in = cues[in];
        }
        int length = 1;
        for (int at = cues[in]; at != in; at = cues[at]) {
            length++;
        }
        return length;
    }
}
