import java.util.function.Supplier;

/** The sentences of promises 37 to 43: bars and tempos. */
final class TempoSentences extends SentenceTest {
    private static final String BAR = "- `bar`: the number of a bar, 0 to 999";
    private static final String NO_BAR = "Throws `IllegalArgumentException` if bar is out of range";

    TempoSentences(Check check, Book book) {
        super(check, book);
    }

    @Override
    void run() {
        bars();
        barsOf();
        setTempo();
        tempoAt();
        starts();
    }

    private static CutleryOrchestra barOf(int ticks) {
        CutleryOrchestra x = new CutleryOrchestra();
        x.setBar(ticks);
        return x;
    }

    private void bars() {
        test(37, "Sets the length of all bars, which is 8 ticks at first.", () -> {
            CutleryOrchestra x = new CutleryOrchestra();
            due(8, x.barLength());
            due(2000L, x.startOfBar(1));
            x.setBar(48);
            due(12000L, x.startOfBar(1));
            due(12000L * 999, x.startOfBar(999));
            x.setBar(1);
            due(250L * 999, x.startOfBar(999));
        });
        range(37, "- `ticks`: the length in ticks, 1 to 48", 1, 48, CutleryOrchestra::new,
            (x, ticks) -> x.setBar(ticks), x -> x.barLength());
        test(37, "Returns the previous length.", () -> {
            CutleryOrchestra x = new CutleryOrchestra();
            due(8, x.setBar(8));
            due(8, x.setBar(1));
            due(1, x.setBar(48));
            due(48, x.setBar(48));
        });
        test(37, "Throws `IllegalArgumentException` if ticks is out of range",
            () -> refusesNumbers(States::busy, (x, ticks) -> x.setBar(ticks), 0, 49, -1));
        test(38, "Returns the length of a bar.", () -> {
            CutleryOrchestra x = barOf(5);
            due(5, x.barLength());
            x.undo();
            due(8, x.barLength());
        });
        test(38, "Returns the length in ticks.", () -> {
            due(1, barOf(1).barLength());
            due(48, barOf(48).barLength());
        });
    }

    private void barsOf() {
        test(39, "Returns the number of bars of a part.", () -> {
            CutleryOrchestra x = States.full();
            int[] ticks = {1, 2, 3, 4, 5, 6, 8, 10, 12, 15, 20, 24, 30, 40};
            for (int length : ticks) {
                x.setBar(length);
                due(120 / length, x.barsOf(4));
            }
        });
        test(39, "- `part`: the index of a part", () -> {
            CutleryOrchestra x = States.five();
            x.setBar(1);
            due(1, x.barsOf(0));
            due(46, x.barsOf(4));
            thrown(Check.INDEX, () -> x.barsOf(-1));
            thrown(Check.INDEX, () -> x.barsOf(5));
        });
        test(39, NO_PART, () -> noSuchPart((x, part) -> x.barsOf(part)));
        test(39, "Returns the number of bars.", () -> {
            CutleryOrchestra x = States.full();
            x.setBar(1);
            due(120, x.barsOf(0));
            CutleryOrchestra y = Check.withParts(1);
            y.addRest(0, 8);
            due(1, y.barsOf(0));
        });
        test(39, "Throws `NoSuchElementException` if the part has no notes, or its length is not a multiple of the"
            + " length of a bar", () -> {
            thrown(Check.ELEMENT, () -> Check.withParts(1).barsOf(0));
            changesNothing(Check.ELEMENT, States::busy, x -> x.barsOf(2));
            changesNothing(Check.ELEMENT, States::busy, x -> x.barsOf(0));
            CutleryOrchestra x = Check.withParts(1);
            x.setBar(7);
            x.addRest(0, 6);
            thrown(Check.ELEMENT, () -> x.barsOf(0));
            x.addRest(0, 1);
            due(1, x.barsOf(0));
            x.addRest(0, 1);
            thrown(Check.ELEMENT, () -> x.barsOf(0));
            x.addRest(0, 6);
            due(2, x.barsOf(0));
        });
    }

    private static CutleryOrchestra sixTempos() {
        CutleryOrchestra x = new CutleryOrchestra();
        x.setTempo(500, 77);
        x.setTempo(100, 130);
        x.setTempo(998, 228);
        x.setTempo(1, 31);
        x.setTempo(300, 90);
        return x;
    }

    private void setTempo() {
        test(40, "Sets the tempo from a bar on, until the next bar for which a tempo is set.", () -> {
            CutleryOrchestra x = new CutleryOrchestra();
            x.setTempo(10, 100);
            x.setTempo(20, 120);
            int[] bars = {0, 9, 10, 19, 20, 999};
            int[] tempos = {60, 60, 100, 100, 120, 120};
            for (int i = 0; i < bars.length; i++) {
                due(tempos[i], x.tempoAt(bars[i]));
            }
            // A bar between two of them, beside both.
            x.setTempo(11, 111);
            x.setTempo(19, 119);
            due(100, x.tempoAt(10));
            due(111, x.tempoAt(11));
            due(111, x.tempoAt(18));
            due(119, x.tempoAt(19));
            due(120, x.tempoAt(20));
            x.setTempo(999, 240);
            due(120, x.tempoAt(998));
            due(240, x.tempoAt(999));
        });
        range(40, BAR, 0, 1, 999, 2, CutleryOrchestra::new, (x, bar) -> x.setTempo(bar, 100));
        range(40, "- `tempo`: the tempo, 30 to 240", 30, 240, CutleryOrchestra::new, (x, tempo) -> x.setTempo(3, tempo),
            x -> x.tempoAt(3));
        test(40, "Returns the number of bars for which a tempo is set after the call.", () -> {
            CutleryOrchestra x = new CutleryOrchestra();
            due(1, x.setTempo(0, 60));
            due(1, x.setTempo(0, 61));
            for (int bar = 5; bar >= 1; bar--) {
                due(7 - bar, x.setTempo(bar, 60));
            }
            due(6, x.setTempo(3, 60));
            due(6, x.setTempo(0, 60));
        });
        test(40, "Throws `IllegalArgumentException` if bar or tempo is out of range", () -> {
            refusesNumbers(States::busy, (x, bar) -> x.setTempo(bar, 60), -1, 1000);
            refusesNumbers(States::busy, (x, tempo) -> x.setTempo(4, tempo), 29, 241, 0, -60);
            refusesNumbers(States::busy, (x, both) -> x.setTempo(both, both), -1, 1000);
        });
        test(40, "Throws `UnsupportedOperationException` if the call is rejected with the reason TEMPO_LIMIT", () -> {
            for (int bar : new int[] {2, 99, 101, 997, 999}) {
                rejected(CutleryOrchestra.TEMPO_LIMIT, 998, TempoSentences::sixTempos, x -> x.setTempo(bar, 60));
            }
            rejected(CutleryOrchestra.TEMPO_LIMIT, 5, States::full, x -> x.setTempo(999, 60));
            for (int bar : new int[] {0, 1, 100, 300, 500, 998}) {
                CutleryOrchestra x = sixTempos();
                due(6, x.setTempo(bar, 240));
                due(240, x.tempoAt(bar));
            }
            CutleryOrchestra x = sixTempos();
            x.undo();
            due(6, x.setTempo(999, 60));
        });
    }

    private void tempoAt() {
        test(41, "Returns the tempo of a bar.", () -> {
            int[] bars = {0, 1, 99, 100, 299, 300, 499, 500, 997, 998, 999};
            int[] tempos = {60, 31, 31, 130, 130, 90, 90, 77, 77, 228, 228};
            for (int i = 0; i < bars.length; i++) {
                due(tempos[i], sixTempos().tempoAt(bars[i]));
            }
        });
        range(41, BAR, 0, 60, 999, 228, TempoSentences::sixTempos, (x, bar) -> x.tempoAt(bar));
        test(41, "Returns the tempo.", () -> {
            CutleryOrchestra x = new CutleryOrchestra();
            due(60, x.tempoAt(0));
            due(60, x.tempoAt(999));
            x.setTempo(0, 30);
            due(30, x.tempoAt(999));
            x.setTempo(0, 240);
            due(240, x.tempoAt(999));
        });
        test(41, NO_BAR, () -> refusesNumbers(States::busy, (x, bar) -> x.tempoAt(bar), -1, 1000));
    }

    private void starts() {
        OnNumber bars = CutleryOrchestra::startOfBar;
        OnNumber tempos = CutleryOrchestra::startOfBarByTempos;
        test(42, "Returns the start of a bar, added bar by bar.", () -> added(bars));
        test(42, "A bar takes as many milliseconds as its length in ticks multiplied by 15000 and divided by its tempo,"
            + " rounded down; the bar 0 starts at 0.", () -> {
            due(0L, new CutleryOrchestra().startOfBar(0));
            due(0L, States.full().startOfBar(0));
            // 8 * 15000 / 70 is 1714.28, / 77 is 1558.44, / 120 is 1000; 1 * 15000 / 239 is 62.76.
            due(1714L, first(8, 70));
            due(1714L * 999, start(8, 70, 999));
            due(1558L, first(8, 77));
            due(1000L, first(8, 120));
            due(62L, first(1, 239));
            due(62L, first(1, 240));
            due(24000L, first(48, 30));
        });
        start(42, "Returns the start in milliseconds.", bars);
        test(43, "Returns the same start in a second way: by multiplying for all bars of the same tempo at once.",
            () -> added(tempos));
        start(43, "Returns the same start.", tempos);
    }

    private static long first(int ticks, int tempo) {
        return start(ticks, tempo, 1);
    }

    private static long start(int ticks, int tempo, int bar) {
        CutleryOrchestra x = barOf(ticks);
        x.setTempo(0, tempo);
        return x.startOfBar(bar);
    }

    private void added(OnNumber start) {
        // Bars of 8 ticks take 2000 at 60, 3870 at 31, 923 at 130, 1333 at 90, 1558 at 77, and 526 at 228.
        long at100 = 2000 + 99 * 3870;
        long at300 = at100 + 200 * 923;
        long at500 = at300 + 200 * 1333;
        long at998 = at500 + 498 * 1558;
        int[] bars = {0, 1, 2, 99, 100, 101, 300, 301, 500, 501, 998, 999};
        long[] starts = {
            0, 2000, 5870, at100 - 3870, at100, at100 + 923, at300, at300 + 1333, at500, at500 + 1558, at998,
            at998 + 526,
        };
        for (int i = 0; i < bars.length; i++) {
            due(starts[i], start.call(sixTempos(), bars[i]));
        }
    }

    private void start(int promise, String answer, OnNumber start) {
        range(promise, BAR, 0, 0L, 999, 1998000L, CutleryOrchestra::new, start);
        test(promise, answer, () -> {
            Supplier<CutleryOrchestra> slowest = () -> {
                CutleryOrchestra x = barOf(48);
                x.setTempo(0, 30);
                return x;
            };
            due(0L, start.call(slowest.get(), 0));
            due(24000L, start.call(slowest.get(), 1));
            due(23976000L, start.call(slowest.get(), 999));
            CutleryOrchestra x = barOf(1);
            x.setTempo(0, 240);
            due(62L, start.call(x, 1));
            due(62L * 999, start.call(x, 999));
        });
        test(promise, NO_BAR, () -> refusesNumbers(States::busy, start, -1, 1000));
    }
}
