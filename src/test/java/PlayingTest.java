/** Promises 44 to 52: playing. */
final class PlayingTest {
    static void run(Check c) {
        play(c);
        silent(c);
        means(c);
        shares(c);
        consistent(c);
    }

    private static void play(Check c) {
        CutleryOrchestra x = Check.withParts(4);
        Check.add(x, 0, "35*2 -*1");
        Check.add(x, 1, "0*1 35*1 -*2");
        Check.add(x, 3, "-*5");
        x.setBar(6);
        // The numbers that sound, from tick 0 on: 2 2 0 1 2 1 | 1 1 1 2 1 0 and again.
        c.due("48 one bar", 2, x.solosAhead(1));
        c.due("48 two bars", 6, x.solosAhead(2));
        c.due("45 ahead alone", 0, x.playedTicks());
        c.due("44 one bar", 2, x.play(1));
        c.due("45 one bar", 6, x.playedTicks());
        c.due("46 part 0", 4, x.soundedTicks(0));
        c.due("46 part 1", 4, x.soundedTicks(1));
        c.due("46 no notes", 0, x.soundedTicks(2));
        c.due("46 rests", 0, x.soundedTicks(3));
        c.due("47 part 0", 1, x.soloTicks(0));
        c.due("47 part 1", 1, x.soloTicks(1));
        c.due("48 goes on", 4, x.solosAhead(1));
        c.due("44 goes on", 4, x.play(1));
        c.due("47 part 0 then", 4, x.soloTicks(0));
        c.due("47 part 1 then", 2, x.soloTicks(1));
        c.due("44 twenty bars", 60, x.play(20));
        c.due("45 twenty bars", 132, x.playedTicks());
        // What has been played stays when the notes change.
        x.removeLast(0);
        c.due("46 stays", 88, x.soundedTicks(0));
        c.due("48 other notes", 2, x.solosAhead(1));
        for (int bars : new int[] {0, 21, -1}) {
            c.thrown("44 bars " + bars, Check.ARGUMENT, () -> x.play(bars));
            c.thrown("48 bars " + bars, Check.ARGUMENT, () -> x.solosAhead(bars));
        }
        for (int part : new int[] {-1, 4}) {
            c.thrown("46 no part", Check.INDEX, () -> x.soundedTicks(part));
            c.thrown("47 no part", Check.INDEX, () -> x.soloTicks(part));
        }
        CutleryOrchestra y = Check.withParts(1);
        y.addNote(0, 0, 1);
        y.setBar(48);
        c.due("48 most", 960, y.solosAhead(20));
        c.due("44 most", 960, y.play(20));
        c.due("44 most again", 960, y.play(20));
        c.due("47 most", 1920, y.soloTicks(0));
        // A third part in a tick leaves it no solo.
        CutleryOrchestra z = Check.withParts(3);
        for (int i = 0; i < 3; i++) {
            Check.add(z, i, "1*1 -*7");
        }
        c.due("44 three at once", 0, z.play(2));
        c.due("46 three at once", 2, z.soundedTicks(2));
    }

    private static void silent(Check c) {
        CutleryOrchestra x = new CutleryOrchestra();
        c.due("48 no parts", 0, x.solosAhead(20));
        c.rejected("44 no parts", x, CutleryOrchestra.SILENT, 0, () -> x.play(1));
        x.addPart();
        x.addPart();
        c.rejected("44 no notes", x, CutleryOrchestra.SILENT, 2, () -> x.play(20));
        c.thrown("44 bars ahead of silence", Check.ARGUMENT, () -> x.play(21));
        c.due("45 nothing played", 0, x.playedTicks());
        x.addRest(1, 3);
        c.due("44 rests alone", 0, x.play(1));
        c.due("45 rests alone", 8, x.playedTicks());
    }

    private static void means(Check c) {
        CutleryOrchestra x = Check.withParts(2);
        c.thrown("49 no notes", Check.ARITHMETIC, () -> x.meanPitch(0));
        x.addRest(0, 5);
        c.thrown("49 rests alone", Check.ARITHMETIC, () -> x.meanPitch(0));
        x.addNote(0, 0, 12);
        c.due("49 lowest", 0.0, x.meanPitch(0));
        x.addNote(0, 35, 1);
        c.due("49 two", 17.5, x.meanPitch(0));
        x.addNote(0, 0, 1);
        c.due("49 three", 35.0 / 3.0, x.meanPitch(0));
        x.removeLast(0);
        x.removeLast(0);
        c.due("49 removed notes do not count", 0.0, x.meanPitch(0));
        x.addNote(1, 31, 3);
        c.due("49 first note", 31.0, x.meanPitch(1));
        x.addNote(1, 30, 9);
        c.due("49 not by lengths", 30.5, x.meanPitch(1));
        c.thrown("49 no part", Check.INDEX, () -> x.meanPitch(2));
        c.thrown("49 part -1", Check.INDEX, () -> x.meanPitch(-1));
    }

    private static void dueShare(Check c, CutleryOrchestra x, int rests, int ticks) {
        float want = (float) rests / (float) ticks;
        c.due("50 " + rests + "/" + ticks, want, x.restShare(0));
        c.due("51 " + rests + "/" + ticks, Float.floatToIntBits(want), x.restShareBits(0));
    }

    private static void shares(Check c) {
        CutleryOrchestra x = Check.withParts(1);
        c.thrown("50 no notes", Check.ARITHMETIC, () -> x.restShare(0));
        c.thrown("51 no notes", Check.ARITHMETIC, () -> x.restShareBits(0));
        for (int part : new int[] {-1, 1}) {
            c.thrown("50 no part", Check.INDEX, () -> x.restShare(part));
            c.thrown("51 no part", Check.INDEX, () -> x.restShareBits(part));
        }
        x.addNote(0, 1, 7);
        dueShare(c, x, 0, 7);
        c.due("51 no rests", 0, x.restShareBits(0));
        x.addRest(0, 7);
        dueShare(c, x, 7, 14);
        x.removeLast(0);
        dueShare(c, x, 0, 7);
        x.removeLast(0);
        x.addRest(0, 11);
        dueShare(c, x, 11, 11);
        c.due("51 rests alone", 0x3f800000, x.restShareBits(0));
        // All shares that ten notes can have.
        for (int rests = 1; rests <= 108; rests++) {
            for (int notes = 1; notes <= 12; notes++) {
                dueShareOf(c, rests, notes);
                if (rests <= 12) {
                    dueShareOf(c, rests, notes + 96);
                }
            }
        }
    }

    private static void dueShareOf(Check c, int rests, int notes) {
        CutleryOrchestra x = Check.withParts(1);
        for (int left = rests; left > 0; left -= 12) {
            x.addRest(0, Math.min(left, 12));
        }
        for (int left = notes; left > 0; left -= 12) {
            x.addNote(0, 9, Math.min(left, 12));
        }
        dueShare(c, x, rests, rests + notes);
    }

    private static void consistent(Check c) {
        CutleryOrchestra x = Check.withParts(5);
        c.due("52 no notes", true, x.isConsistent());
        for (int i = 0; i < 5; i++) {
            Check.add(x, i, "1*1 2*3 1*1 2*3 -*" + (i + 1) + " 1*1 2*3 1*1");
            x.setTuning(i, 99 - i, 70 + i);
            x.setCue(i, (i + 2) % 5);
            x.setTempo(i * 20, 70 + i);
        }
        c.due("52 many", true, x.isConsistent());
        c.due("52 unchanged", "2(97/72)>4 1*1 2*3 1*1 2*3 -*3 1*1 2*3 1*1", Check.written(x, 2));
        x.play(20);
        c.due("52 after playing", true, x.isConsistent());
        CutleryOrchestra y = Check.withParts(5);
        int[] primes = {113, 109, 107, 103, 101};
        for (int i = 0; i < 5; i++) {
            for (int left = primes[i]; left > 0; left -= 12) {
                y.addNote(i, 3, Math.min(left, 12));
            }
        }
        c.due("52 never together", true, y.isConsistent());
    }
}
