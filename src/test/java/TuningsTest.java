/** Promises 22 to 30: tunings. */
final class TuningsTest {
    static void run(Check c) {
        setTuning(c);
        nearest(c);
        allNearest(c);
        intervals(c);
        order(c);
    }

    private static void setTuning(Check c) {
        CutleryOrchestra x = Check.withParts(2);
        c.due("22 6/4", 2, x.setTuning(1, 6, 4));
        c.due("23 6/4", 3, x.tuningNumerator(1));
        c.due("24 6/4", 2, x.tuningDenominator(1));
        c.due("22 99/99", 99, x.setTuning(1, 99, 99));
        c.due("23 99/99", 1, x.tuningNumerator(1));
        c.due("24 99/99", 1, x.tuningDenominator(1));
        c.due("22 1/99", 1, x.setTuning(1, 1, 99));
        c.due("23 1/99", 1, x.tuningNumerator(1));
        c.due("24 1/99", 99, x.tuningDenominator(1));
        c.due("22 34/85", 17, x.setTuning(1, 34, 85));
        c.due("22 89/55", 1, x.setTuning(1, 89, 55));
        c.due("22 other part", "0(1/1)", Check.written(x, 0));
        for (int wrong : new int[] {0, 100, -1, Integer.MIN_VALUE}) {
            c.thrown("22 numerator " + wrong, Check.ARGUMENT, () -> x.setTuning(0, wrong, 1));
            c.thrown("22 denominator " + wrong, Check.ARGUMENT, () -> x.setTuning(0, 1, wrong));
        }
        for (int part : new int[] {-1, 2}) {
            c.thrown("22 no part", Check.INDEX, () -> x.setTuning(part, 0, 0));
            c.thrown("23 no part", Check.INDEX, () -> x.tuningNumerator(part));
            c.thrown("24 no part", Check.INDEX, () -> x.tuningDenominator(part));
        }
        c.due("22 unchanged", "0(1/1)", Check.written(x, 0));
    }

    private static void dueNearest(Check c, CutleryOrchestra x, int limit, int top, int bottom) {
        String what = x.tuningNumerator(0) + "/" + x.tuningDenominator(0) + " to " + limit;
        c.due("25 " + what, top, x.nearestNumerator(0, limit));
        c.due("26 " + what, bottom, x.nearestDenominator(0, limit));
        c.due("27 " + what, bottom, x.nearestDenominatorByTrying(0, limit));
    }

    private static void nearest(Check c) {
        CutleryOrchestra x = Check.withParts(1);
        dueNearest(c, x, 1, 1, 1);
        dueNearest(c, x, 20, 1, 1);
        x.setTuning(0, 99, 70);
        dueNearest(c, x, 5, 7, 5);
        dueNearest(c, x, 12, 17, 12);
        x.setTuning(0, 1, 2);
        dueNearest(c, x, 1, 0, 1);
        dueNearest(c, x, 2, 1, 2);
        x.setTuning(0, 5, 2);
        dueNearest(c, x, 1, 2, 1);
        x.setTuning(0, 1, 99);
        dueNearest(c, x, 20, 0, 1);
        x.setTuning(0, 99, 1);
        dueNearest(c, x, 20, 99, 1);
        // 1/40 is as near to 0/1 as to 1/20.
        x.setTuning(0, 1, 40);
        dueNearest(c, x, 20, 0, 1);
        x.setTuning(0, 1, 39);
        dueNearest(c, x, 20, 1, 20);
        // 39/40 is as near to 1/1 as to 19/20.
        x.setTuning(0, 39, 40);
        dueNearest(c, x, 20, 1, 1);
        x.setTuning(0, 20, 19);
        dueNearest(c, x, 19, 20, 19);
        for (int limit : new int[] {0, 21, -5}) {
            c.thrown("25 limit " + limit, Check.ARGUMENT, () -> x.nearestNumerator(0, limit));
            c.thrown("26 limit " + limit, Check.ARGUMENT, () -> x.nearestDenominator(0, limit));
            c.thrown("27 limit " + limit, Check.ARGUMENT, () -> x.nearestDenominatorByTrying(0, limit));
        }
        for (int part : new int[] {-1, 1}) {
            c.thrown("25 no part", Check.INDEX, () -> x.nearestNumerator(part, 0));
            c.thrown("26 no part", Check.INDEX, () -> x.nearestDenominator(part, 0));
            c.thrown("27 no part", Check.INDEX, () -> x.nearestDenominatorByTrying(part, 0));
        }
    }

    /** Each tuning for some limits, against all fractions there are. */
    private static void allNearest(Check c) {
        int[] limits = {1, 2, 3, 7, 13, 20};
        boolean right = true;
        for (int top = 1; top <= 99; top++) {
            for (int bottom = 1; bottom <= 99; bottom++) {
                CutleryOrchestra x = Check.withParts(1);
                x.setTuning(0, top, bottom);
                for (int limit : limits) {
                    int[] best = bestOf(top, bottom, limit);
                    right &= best[0] == x.nearestNumerator(0, limit) && best[1] == x.nearestDenominator(0, limit)
                        && best[1] == x.nearestDenominatorByTrying(0, limit);
                }
            }
        }
        c.due("25 to 27 for all tunings", true, right);
    }

    private static int[] bestOf(int top, int bottom, int limit) {
        int[] best = {0, 1};
        for (int d = 1; d <= limit; d++) {
            for (int n = 0; n <= 99 * d && n <= top * d / bottom + 1; n++) {
                long gap = Math.abs((long) top * d - (long) n * bottom) * best[1];
                long bestGap = Math.abs((long) top * best[1] - (long) best[0] * bottom) * d;
                if (gap < bestGap) {
                    best[0] = n;
                    best[1] = d;
                }
            }
        }
        return best;
    }

    private static void dueInterval(Check c, CutleryOrchestra x, int first, int second, int top, int bottom) {
        c.due("28 " + first + " " + second, top, x.intervalNumerator(first, second));
        c.due("29 " + first + " " + second, bottom, x.intervalDenominator(first, second));
    }

    private static void intervals(Check c) {
        CutleryOrchestra x = Check.withParts(3);
        x.setTuning(0, 3, 2);
        x.setTuning(1, 9, 8);
        x.setTuning(2, 99, 98);
        dueInterval(c, x, 0, 1, 4, 3);
        dueInterval(c, x, 1, 0, 3, 4);
        dueInterval(c, x, 2, 2, 1, 1);
        dueInterval(c, x, 2, 0, 33, 49);
        x.setTuning(0, 97, 98);
        x.setTuning(1, 95, 99);
        dueInterval(c, x, 0, 1, 97 * 99, 98 * 95);
        for (int part : new int[] {-1, 3}) {
            c.thrown("28 no first", Check.INDEX, () -> x.intervalNumerator(part, 0));
            c.thrown("28 no second", Check.INDEX, () -> x.intervalNumerator(0, part));
            c.thrown("29 no first", Check.INDEX, () -> x.intervalDenominator(part, 0));
            c.thrown("29 no second", Check.INDEX, () -> x.intervalDenominator(0, part));
        }
    }

    private static void order(Check c) {
        CutleryOrchestra x = new CutleryOrchestra();
        c.thrown("30 no parts", Check.ELEMENT, () -> x.partByTuning(0));
        for (int i = 0; i < 5; i++) {
            x.addPart();
            c.due("30 same tunings", i, x.partByTuning(i));
        }
        x.setTuning(1, 2, 4);
        x.setTuning(2, 97, 96);
        x.setTuning(3, 96, 95);
        x.addNote(4, 1, 5);
        int[] due = {3, 2, 4, 0, 1};
        for (int i = 0; i < 5; i++) {
            c.due("30 position " + i, due[i], x.partByTuning(i));
        }
        c.thrown("30 position 5", Check.ELEMENT, () -> x.partByTuning(5));
        c.thrown("30 position -1", Check.ELEMENT, () -> x.partByTuning(-1));
        c.thrown("30 position min", Check.ELEMENT, () -> x.partByTuning(Integer.MIN_VALUE));
        x.addRest(0, 6);
        c.due("30 the longer one first", 0, x.partByTuning(2));
        x.removeLast(0);
        x.addRest(0, 5);
        c.due("30 then the lower index", 0, x.partByTuning(2));
    }
}
