/** The sentences under "What it is", and those under "Terms" ahead of the commands. */
final class TermSentences extends SentenceTest {
    private static final String TERMS = "Terms";

    TermSentences(Check check, Book book) {
        super(check, book);
    }

    @Override
    void run() {
        calls();
        parts();
        ticks();
        tunings();
        tempos();
        playing();
    }

    private void calls() {
        test("What it is", "An object is used for at most 512 calls after it has been made; what later calls answer is"
            + " free.", () -> {
            CutleryOrchestra x = new CutleryOrchestra();
            due(0, x.addPart());
            due(1, x.addNote(0, 35, 1));
            due(8, x.setBar(48));
            for (int call = 4; call <= 508; call++) {
                due(960, x.play(20));
            }
            due(505 * 960, x.playedTicks());
            due(505 * 960, x.soundedTicks(0));
            due(505 * 960, x.soloTicks(0));
            due(7, x.undo());
        });
    }

    // ---- parts

    private void parts() {
        test(TERMS, "There are at most 5 parts, numbered from 0 in the order in which they are added; they are never"
            + " removed.", () -> {
            CutleryOrchestra x = new CutleryOrchestra();
            for (int part = 0; part < 5; part++) {
                due(part, x.addPart());
                x.setTuning(part, part + 1, 1);
            }
            thrown(Check.REJECTED, x::addPart);
            for (int part = 0; part < 5; part++) {
                due(part + 1, x.tuningNumerator(part));
                // A part whose notes are gone is still there.
                x.addRest(part, 1);
                x.removeLast(part);
            }
            due(5, x.partCount());
        });
        test(TERMS, "A part is a sequence of at most 10 notes, numbered from 0.", () -> {
            CutleryOrchestra x = Check.withParts(1);
            for (int note = 0; note < 10; note++) {
                due(note + 1, x.addNote(0, note, 1));
            }
            thrown(Check.REJECTED, () -> x.addNote(0, 10, 1));
            for (int note = 0; note < 10; note++) {
                due(note, x.pitchOf(0, note));
            }
            thrown(Check.INDEX, () -> x.pitchOf(0, 10));
        });
        test(TERMS, "A note has a length in ticks, and a pitch or none; a note without a pitch is a rest.", () -> {
            CutleryOrchestra x = Check.withParts(1);
            x.addNote(0, 0, 1);
            x.addRest(0, 12);
            due(false, x.isRest(0, 0));
            due(true, x.isRest(0, 1));
            due(0, x.pitchOf(0, 0));
            thrown(Check.ELEMENT, () -> x.pitchOf(0, 1));
            due(1, x.lengthOf(0, 0));
            due(12, x.lengthOf(0, 1));
        });
        test(TERMS, "Two notes are the same if their lengths are the same, and their pitches are the same or both are"
            + " rests.", () -> {
            dueSame(1, "0*1", "0*1");
            dueSame(1, "35*12", "35*12");
            dueSame(1, "-*12", "-*12");
            dueSame(0, "0*1", "0*2");
            dueSame(0, "0*1", "1*1");
            dueSame(0, "-*1", "-*2");
            dueSame(0, "0*1", "-*1");
            dueSame(0, "1*2", "2*1");
        });
    }

    /** Notes that are the same have a common theme of 1, and a period of 1; others of 0 and 2. */
    private void dueSame(int theme, String one, String other) {
        CutleryOrchestra x = Check.withParts(3);
        Check.add(x, 0, one);
        Check.add(x, 1, other);
        Check.add(x, 2, one + " " + other);
        due(theme, x.commonTheme(0, 1));
        due(theme, x.commonThemeByTrying(1, 0));
        due(2 - theme, x.period(2));
        due(2 - theme, x.periodByTrying(2));
    }

    // ---- ticks

    private static CutleryOrchestra with(String... notes) {
        CutleryOrchestra x = Check.withParts(notes.length);
        for (int part = 0; part < notes.length; part++) {
            if (!notes[part].isEmpty()) {
                Check.add(x, part, notes[part]);
            }
        }
        return x;
    }

    private void ticks() {
        test(TERMS, "Ticks are numbered from 0.", () -> {
            CutleryOrchestra x = with("7*1 -*1");
            due(0, x.noteAt(0, 0));
            due(1, x.soundingAt(0));
            due(128L, x.chordAt(0));
            thrown(Check.ARGUMENT, () -> x.noteAt(0, -1));
            thrown(Check.ARGUMENT, () -> x.soundingAt(-1));
            thrown(Check.ARGUMENT, () -> x.chordAt(-1));
        });
        test(TERMS, "All parts with notes begin in tick 0, and each of them is played again from its beginning whenever"
            + " it has ended.", this::playedAgain);
        test(TERMS, "A part sounds in a tick if the note that is played then is not a rest; a part without notes never"
            + " sounds.", () -> {
            CutleryOrchestra x = with("0*1 -*1", "", "-*1");
            x.setBar(2);
            x.play(20);
            due(20, x.soundedTicks(0));
            due(0, x.soundedTicks(1));
            due(0, x.soundedTicks(2));
            due(1, x.soundingAt(0));
            due(0, x.soundingAt(1));
        });
        test(TERMS, "A tick is a solo of a part if this part sounds in it, and no other one does.", () -> {
            // None, one, two, and three parts at once; the solos are of the first, the second, and the third part.
            CutleryOrchestra x = with("-*1 1*1 -*2 2*3 -*1", "-*2 1*1 -*1 2*2 -*1 3*1", "-*3 1*1 -*1 2*1 -*1 3*1");
            x.setBar(8);
            due(4, x.solosAhead(1));
            due(4, x.play(1));
            due(2, x.soloTicks(0));
            due(1, x.soloTicks(1));
            due(1, x.soloTicks(2));
            due(4, x.soundedTicks(0));
            due(4, x.soundedTicks(1));
            due(3, x.soundedTicks(2));
        });
        test(TERMS, "Parts end together after a number of ticks if this number is a multiple of the length of each of"
            + " them.", () -> {
            dueTogether(1, "1*1", "-*1");
            dueTogether(12, "1*12", "-*1", "-*4");
            dueTogether(132, "1*12", "-*11");
            dueTogether(60, "1*12", "-*10", "-*5 3*10");
        });
    }

    private void dueTogether(int want, String... notes) {
        due(want, with(notes).togetherAfter());
        due(want, with(notes).togetherAfterBySteps());
    }

    /** A part of 12 ticks: the last tick of its first turn, the first of its second, and so on. */
    private void playedAgain() {
        CutleryOrchestra x = with("1*2 -*9 2*1", "3*5");
        int[] ticks = {0, 1, 2, 10, 11, 12, 13, 14, 22, 23, 24, 999983, 999984, 999999};
        int[] notes = {0, 0, 1, 1, 2, 0, 0, 1, 1, 2, 0, 2, 0, 1};
        for (int i = 0; i < ticks.length; i++) {
            due(notes[i], x.noteAt(0, ticks[i]));
            due(notes[i] == 1 ? 1 : 2, x.soundingAt(ticks[i]));
            due(notes[i] == 1 ? 8L : notes[i] == 0 ? 10L : 12L, x.chordAt(ticks[i]));
        }
        // The second part sounds in each tick; the solos are the ticks in which the first one rests.
        x.setBar(11);
        due(9, x.play(1));
        due(8, x.solosAhead(1));
        x.setBar(1);
        due(0, x.play(1));
        due(0, x.play(1));
        due(0, x.play(1));
        due(1, x.play(1));
        // A part that is added later has begun in tick 0 as well.
        x.addPart();
        x.addRest(2, 4);
        x.addNote(2, 5, 3);
        due(15, x.playedTicks());
        due(0, x.noteAt(2, 15));
        due(1, x.noteAt(2, 18));
    }

    // ---- tunings

    private void tunings() {
        test(TERMS, "A fraction is in lowest terms if no number greater than 1 divides both its numerator and its"
            + " denominator.", () -> {
            boolean lowest = true;
            for (int top = 1; top <= 99; top++) {
                for (int bottom = 1; bottom <= 99; bottom++) {
                    CutleryOrchestra x = Check.withParts(2);
                    x.setTuning(0, top, bottom);
                    x.setTuning(1, bottom, 98);
                    lowest &= inLowestTerms(x.tuningNumerator(0), x.tuningDenominator(0))
                        && inLowestTerms(x.intervalNumerator(0, 1), x.intervalDenominator(0, 1));
                }
            }
            due(true, lowest);
        });
        test(TERMS, "The nearest fraction to a tuning for a limit is, of all fractions whose numerator and denominator"
            + " are whole numbers, the denominator from 1 to the limit, the one whose difference from the tuning is the"
            + " least; of several, it is the one with the smaller denominator, then the one with the smaller"
            + " numerator.", () -> {
            dueNearest(0, 1, 1, 99, 20);
            dueNearest(1, 20, 1, 20, 20);
            dueNearest(0, 1, 1, 20, 9);
            dueNearest(1, 19, 1, 20, 19);
            // As near: with another denominator, and with the same one.
            dueNearest(0, 1, 1, 40, 20);
            dueNearest(1, 1, 39, 40, 20);
            dueNearest(1, 2, 5, 12, 3);
            dueNearest(0, 1, 1, 2, 1);
            dueNearest(1, 1, 3, 2, 1);
            dueNearest(49, 1, 99, 2, 1);
        });
        test(TERMS, "It is always in lowest terms.", () -> {
            dueNearest(1, 2, 1, 2, 20);
            dueNearest(1, 2, 49, 99, 20);
            dueNearest(1, 1, 98, 99, 20);
            boolean lowest = true;
            for (int limit = 1; limit <= 20; limit++) {
                for (int top = 1; top <= 99; top++) {
                    CutleryOrchestra x = Check.withParts(1);
                    x.setTuning(0, top, 98);
                    lowest &= inLowestTerms(x.nearestNumerator(0, limit), x.nearestDenominator(0, limit))
                        && x.nearestDenominator(0, limit) == x.nearestDenominatorByTrying(0, limit);
                }
            }
            due(true, lowest);
        });
    }

    private static boolean inLowestTerms(int top, int bottom) {
        for (int divisor = 2; divisor <= Math.max(top, bottom); divisor++) {
            if (top % divisor == 0 && bottom % divisor == 0) {
                return false;
            }
        }
        return true;
    }

    private void dueNearest(int top, int bottom, int tuningTop, int tuningBottom, int limit) {
        CutleryOrchestra x = Check.withParts(1);
        x.setTuning(0, tuningTop, tuningBottom);
        due(top, x.nearestNumerator(0, limit));
        due(bottom, x.nearestDenominator(0, limit));
        due(bottom, x.nearestDenominatorByTrying(0, limit));
    }

    // ---- tempos and playing

    private void tempos() {
        test(TERMS, "A tempo is set for the bar 0 at first; it is 60.", () -> {
            CutleryOrchestra x = new CutleryOrchestra();
            due(60, x.tempoAt(0));
            due(60, x.tempoAt(999));
            due(2, x.setTempo(1, 61));
            due(60, x.tempoAt(0));
        });
        test(TERMS, "A tempo that is set for a bar that has one takes its place.", () -> {
            CutleryOrchestra x = new CutleryOrchestra();
            due(1, x.setTempo(0, 30));
            due(2, x.setTempo(999, 240));
            due(2, x.setTempo(999, 31));
            due(2, x.setTempo(0, 32));
            due(32, x.tempoAt(998));
            due(31, x.tempoAt(999));
        });
        test(TERMS, "Tempos can be set for at most 6 bars at a time, the bar 0 included.", () -> {
            CutleryOrchestra x = new CutleryOrchestra();
            for (int bar = 1; bar <= 5; bar++) {
                due(bar + 1, x.setTempo(bar, 60 + bar));
            }
            thrown(Check.REJECTED, () -> x.setTempo(6, 66));
            due(65, x.tempoAt(6));
            due(6, x.setTempo(0, 99));
            // One fewer after undoing leaves room for another bar.
            x.undo();
            x.undo();
            due(6, x.setTempo(6, 66));
        });
    }

    private void playing() {
        test(TERMS, "To play bars means that as many ticks are played as they have together, from the tick that is"
            + " played next on.", () -> {
            CutleryOrchestra x = with("1*1 -*2");
            x.setBar(1);
            due(1, x.play(1));
            due(1, x.playedTicks());
            due(0, x.play(2));
            due(3, x.playedTicks());
            x.setBar(48);
            due(320, x.play(20));
            due(963, x.playedTicks());
            due(321, x.soundedTicks(0));
        });
    }
}
