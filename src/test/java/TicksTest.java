/** Promises 13 to 17: ticks. */
final class TicksTest {
    static void run(Check c) {
        noteAt(c);
        sounding(c);
        fiveParts(c);
        together(c);
        togetherLimit(c);
    }

    private static void noteAt(Check c) {
        CutleryOrchestra x = Check.withParts(2);
        Check.add(x, 0, "5*1 -*3 6*2");
        int[] due = {0, 1, 1, 1, 2, 2};
        for (int tick = 0; tick < 20; tick++) {
            c.due("13 tick " + tick, due[tick % 6], x.noteAt(0, tick));
        }
        c.due("13 last tick", due[999999 % 6], x.noteAt(0, 999999));
        c.thrown("13 tick 1000000", Check.ARGUMENT, () -> x.noteAt(0, 1000000));
        c.thrown("13 tick -1", Check.ARGUMENT, () -> x.noteAt(0, -1));
        c.thrown("13 no part", Check.INDEX, () -> x.noteAt(2, -1));
        c.thrown("13 part -1", Check.INDEX, () -> x.noteAt(-1, 0));
        c.thrown("13 no notes", Check.ELEMENT, () -> x.noteAt(1, 0));
        c.thrown("13 tick ahead of notes", Check.ARGUMENT, () -> x.noteAt(1, -1));
    }

    private static void sounding(Check c) {
        CutleryOrchestra x = Check.withParts(4);
        c.due("14 silence", 0, x.soundingAt(0));
        c.due("15 silence", 0L, x.chordAt(0));
        Check.add(x, 0, "35*2 -*1");
        Check.add(x, 1, "0*1 35*1 -*2");
        Check.add(x, 3, "-*5");
        int[] soundingDue = {2, 2, 0, 1, 2, 1, 1, 1, 1, 2, 1, 0};
        for (int tick = 0; tick < 24; tick++) {
            c.due("14 tick " + tick, soundingDue[tick % 12], x.soundingAt(tick));
        }
        long top = 1L << 35;
        long[] chordDue = {top + 1, top, 0, top, top + 1, top, top, top, 1, top, top, 0};
        for (int tick = 0; tick < 24; tick++) {
            c.due("15 tick " + tick, chordDue[tick % 12], x.chordAt(tick));
        }
        c.due("14 last tick", 1, x.soundingAt(999999));
        c.due("15 last tick", top, x.chordAt(999999));
        for (int tick : new int[] {-1, 1000000, Integer.MIN_VALUE, Integer.MAX_VALUE}) {
            c.thrown("14 tick " + tick, Check.ARGUMENT, () -> x.soundingAt(tick));
            c.thrown("15 tick " + tick, Check.ARGUMENT, () -> x.chordAt(tick));
        }
    }

    private static void fiveParts(Check c) {
        CutleryOrchestra x = Check.withParts(5);
        for (int i = 0; i < 5; i++) {
            x.addNote(i, 7 * i, 2);
            x.addRest(i, 1 + i);
        }
        c.due("14 all five", 5, x.soundingAt(0));
        c.due("15 all five", 1L + (1L << 7) + (1L << 14) + (1L << 21) + (1L << 28), x.chordAt(1));
        c.due("14 none of five", 0, x.soundingAt(2));
        c.due("15 the last alone", 1L << 28, x.chordAt(14));
    }

    private static void dueTogether(Check c, String what, int want, CutleryOrchestra x) {
        c.due("16 " + what, want, x.togetherAfter());
        c.due("17 " + what, want, x.togetherAfterBySteps());
    }

    private static void never(Check c, String what, CutleryOrchestra x) {
        c.thrown("16 " + what, Check.ELEMENT, x::togetherAfter);
        c.thrown("17 " + what, Check.ELEMENT, x::togetherAfterBySteps);
    }

    private static void together(Check c) {
        CutleryOrchestra x = new CutleryOrchestra();
        never(c, "no parts", x);
        x.addPart();
        x.addPart();
        x.addPart();
        never(c, "no notes", x);
        x.addRest(1, 1);
        dueTogether(c, "one tick", 1, x);
        x.addNote(0, 1, 4);
        dueTogether(c, "4 and 1", 4, x);
        x.addNote(2, 1, 6);
        dueTogether(c, "4, 1 and 6", 12, x);
        x.addRest(1, 9);
        dueTogether(c, "4, 10 and 6", 60, x);
    }

    private static void lengthen(CutleryOrchestra x, int part, int length) {
        int left = length;
        while (left > 0) {
            int note = Math.min(left, 12);
            x.addNote(part, 0, note);
            left -= note;
        }
    }

    private static void togetherLimit(Check c) {
        // 27 * 37 * 91 * 11 is 999999, the greatest number that is answered.
        CutleryOrchestra x = Check.withParts(4);
        lengthen(x, 0, 27);
        lengthen(x, 1, 37);
        lengthen(x, 2, 91);
        lengthen(x, 3, 11);
        dueTogether(c, "27, 37, 91, 11", 999999, x);
        CutleryOrchestra y = Check.withParts(4);
        lengthen(y, 0, 119);
        lengthen(y, 1, 113);
        dueTogether(c, "119, 113", 13447, y);
        lengthen(y, 2, 75);
        never(c, "119, 113, 75", y);
        CutleryOrchestra z = Check.withParts(5);
        int[] primes = {113, 109, 107, 103, 101};
        for (int i = 0; i < 5; i++) {
            lengthen(z, i, primes[i]);
        }
        never(c, "five primes", z);
        CutleryOrchestra w = Check.withParts(5);
        for (int i = 0; i < 5; i++) {
            lengthen(w, i, 120);
        }
        dueTogether(c, "five longest", 120, w);
    }
}
