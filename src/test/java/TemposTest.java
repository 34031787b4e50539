/** Promises 37 to 43: bars and tempos. */
final class TemposTest {
    static void run(Check c) {
        bars(c);
        barsOf(c);
        setTempo(c);
        limit(c);
        starts(c);
    }

    private static void bars(Check c) {
        CutleryOrchestra x = new CutleryOrchestra();
        c.due("38 at first", 8, x.barLength());
        c.due("37 first", 8, x.setBar(48));
        c.due("38 longest", 48, x.barLength());
        c.due("37 second", 48, x.setBar(1));
        c.due("38 shortest", 1, x.barLength());
        c.due("37 the same", 1, x.setBar(1));
        for (int ticks : new int[] {0, 49, -1}) {
            c.thrown("37 ticks " + ticks, Check.ARGUMENT, () -> x.setBar(ticks));
        }
        c.due("38 unchanged", 1, x.barLength());
    }

    private static void barsOf(Check c) {
        CutleryOrchestra x = Check.withParts(2);
        Check.add(x, 1, "1*12 -*12");
        c.due("39 bars", 3, x.barsOf(1));
        x.setBar(24);
        c.due("39 one bar", 1, x.barsOf(1));
        x.setBar(1);
        c.due("39 shortest bars", 24, x.barsOf(1));
        x.setBar(48);
        c.thrown("39 half a bar", Check.ELEMENT, () -> x.barsOf(1));
        x.setBar(7);
        c.thrown("39 no multiple", Check.ELEMENT, () -> x.barsOf(1));
        c.thrown("39 no notes", Check.ELEMENT, () -> x.barsOf(0));
        c.thrown("39 no part", Check.INDEX, () -> x.barsOf(2));
        c.thrown("39 part -1", Check.INDEX, () -> x.barsOf(-1));
    }

    private static void setTempo(Check c) {
        CutleryOrchestra x = new CutleryOrchestra();
        c.due("40 in place", 1, x.setTempo(0, 30));
        c.due("41 bar 0", 30, x.tempoAt(0));
        c.due("40 last bar", 2, x.setTempo(999, 240));
        c.due("41 last bar", 240, x.tempoAt(999));
        c.due("41 ahead", 30, x.tempoAt(998));
        c.due("40 between", 3, x.setTempo(10, 100));
        c.due("40 ahead of it", 4, x.setTempo(9, 90));
        c.due("40 after it", 5, x.setTempo(11, 110));
        c.due("40 in place of it", 5, x.setTempo(10, 101));
        int[] bars = {0, 8, 9, 10, 11, 12, 500, 998, 999};
        int[] due = {30, 30, 90, 101, 110, 110, 110, 110, 240};
        for (int i = 0; i < bars.length; i++) {
            c.due("41 bar " + bars[i], due[i], x.tempoAt(bars[i]));
        }
        for (int bar : new int[] {-1, 1000, Integer.MAX_VALUE}) {
            c.thrown("40 bar " + bar, Check.ARGUMENT, () -> x.setTempo(bar, 60));
            c.thrown("41 bar " + bar, Check.ARGUMENT, () -> x.tempoAt(bar));
            c.thrown("42 bar " + bar, Check.ARGUMENT, () -> x.startOfBar(bar));
            c.thrown("43 bar " + bar, Check.ARGUMENT, () -> x.startOfBarByTempos(bar));
        }
        c.thrown("40 tempo 29", Check.ARGUMENT, () -> x.setTempo(0, 29));
        c.thrown("40 tempo 241", Check.ARGUMENT, () -> x.setTempo(0, 241));
    }

    private static void limit(Check c) {
        CutleryOrchestra x = new CutleryOrchestra();
        for (int i = 5; i >= 1; i--) {
            c.due("40 count", 7 - i, x.setTempo(i * 10, 60 + i));
        }
        c.rejected("40 seventh", x, CutleryOrchestra.TEMPO_LIMIT, 50, () -> x.setTempo(999, 60));
        c.rejected("40 seventh between", x, CutleryOrchestra.TEMPO_LIMIT, 50, () -> x.setTempo(15, 60));
        c.thrown("40 argument ahead of limit", Check.ARGUMENT, () -> x.setTempo(15, 20));
        c.due("40 in place of the last", 6, x.setTempo(50, 99));
        c.due("40 in place of the first", 6, x.setTempo(0, 98));
        c.due("41 in place of the last", 99, x.tempoAt(50));
        c.due("41 in place of the first", 98, x.tempoAt(9));
        c.due("41 not set", 61, x.tempoAt(15));
        c.due("41 not set later", 99, x.tempoAt(999));
        // Bars of 120000 by the tempo: 98, 61, 62, 63, 64 and 99.
        dueStart(c, x, 50, 10L * (1224 + 1967 + 1935 + 1904 + 1875));
        dueStart(c, x, 999, 10L * (1224 + 1967 + 1935 + 1904 + 1875) + 949L * 1212);
    }

    private static void dueStart(Check c, CutleryOrchestra x, int bar, long want) {
        c.due("42 bar " + bar, want, x.startOfBar(bar));
        c.due("43 bar " + bar, want, x.startOfBarByTempos(bar));
    }

    private static void starts(Check c) {
        CutleryOrchestra x = new CutleryOrchestra();
        dueStart(c, x, 0, 0);
        dueStart(c, x, 1, 2000);
        dueStart(c, x, 999, 1998000);
        // 8 * 15000 / 70 is 1714.28: it is rounded bar by bar.
        x.setTempo(0, 70);
        dueStart(c, x, 1, 1714);
        dueStart(c, x, 999, 1714 * 999);
        x.setTempo(2, 130);
        x.setTempo(5, 110);
        dueStart(c, x, 2, 3428);
        dueStart(c, x, 3, 3428 + 923);
        dueStart(c, x, 5, 3428 + 3 * 923);
        dueStart(c, x, 6, 3428 + 3 * 923 + 1090);
        x.setBar(7);
        dueStart(c, x, 6, 2 * 1500 + 3 * 807 + 954);
        CutleryOrchestra y = new CutleryOrchestra();
        y.setBar(48);
        y.setTempo(0, 30);
        dueStart(c, y, 999, 23976000);
        CutleryOrchestra z = new CutleryOrchestra();
        z.setTempo(1, 240);
        z.setTempo(999, 30);
        dueStart(c, z, 1, 2000);
        dueStart(c, z, 2, 2500);
        dueStart(c, z, 999, 2000 + 998 * 500);
    }
}
