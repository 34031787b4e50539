import java.util.function.Supplier;

/** The sentences of promises 44 to 52: playing. */
final class PlaySentences extends SentenceTest {
    private static final String BARS = "- `bars`: the number of bars, 1 to 20";
    private static final String NO_BARS = "Throws `IllegalArgumentException` if bars is out of range";

    PlaySentences(Check check, Book book) {
        super(check, book);
    }

    @Override
    void run() {
        play();
        playedTicks();
        soundedTicks();
        soloTicks();
        solosAhead();
        meanPitch();
        restShare();
        restShareBits();
        isConsistent();
    }

    /** From tick 0 on there sound, again and again: both, the first alone, none, the second alone, the first alone. */
    private static CutleryOrchestra duet() {
        CutleryOrchestra x = Check.withParts(3);
        Check.add(x, 0, "0*2 -*2 35*1");
        Check.add(x, 2, "35*1 -*2 0*1 -*1");
        return x;
    }

    private static CutleryOrchestra loudest() {
        CutleryOrchestra x = Check.withParts(1);
        x.addNote(0, 0, 1);
        x.setBar(48);
        return x;
    }

    private void play() {
        test(44, "Plays bars.", () -> {
            CutleryOrchestra x = duet();
            x.setBar(3);
            due(1, x.play(1));
            due(2, x.play(1));
            due(2, x.play(1));
            due(9, x.playedTicks());
            due(3, x.soloTicks(0));
            due(2, x.soloTicks(2));
        });
        range(44, BARS, 1, 8, 20, 160, () -> {
            CutleryOrchestra x = Check.withParts(1);
            x.addNote(0, 1, 1);
            return x;
        }, (x, bars) -> x.play(bars));
        test(44, "Returns the number of ticks of solos in them.", () -> {
            CutleryOrchestra x = Check.withParts(2);
            x.addRest(1, 12);
            due(0, x.play(20));
            due(960, loudest().play(20));
            due(0, States.full().play(20));
            // Only the ones of this call.
            CutleryOrchestra y = loudest();
            y.play(20);
            due(48, y.play(1));
        });
        test(44, NO_BARS, () -> refusesNumbers(States::busy, (x, bars) -> x.play(bars), 0, 21, -1));
        test(44, "Throws `UnsupportedOperationException` if the call is rejected with the reason SILENT", () -> {
            rejected(CutleryOrchestra.SILENT, 0, CutleryOrchestra::new, x -> x.play(1));
            rejected(CutleryOrchestra.SILENT, 5, () -> Check.withParts(5), x -> x.play(20));
            CutleryOrchestra x = Check.withParts(2);
            x.addRest(1, 1);
            due(0, x.play(1));
            x.removeLast(1);
            thrown(Check.REJECTED, () -> x.play(1));
        });
    }

    private void playedTicks() {
        test(45, "Returns the number of ticks that have been played so far.", () -> {
            CutleryOrchestra x = duet();
            x.play(1);
            due(8, x.playedTicks());
            // The length of bars as it is at each call.
            x.setBar(48);
            x.play(20);
            due(968, x.playedTicks());
            x.setBar(1);
            x.play(1);
            due(969, x.playedTicks());
        });
        test(45, "It is also the number of the tick that is played next.", () -> {
            CutleryOrchestra x = duet();
            x.setBar(1);
            int[] solos = {0, 1, 0, 1, 1};
            for (int tick = 0; tick < 11; tick++) {
                due(tick, x.playedTicks());
                due(solos[tick % 5], x.solosAhead(1));
                due(solos[tick % 5], x.play(1));
            }
        });
        test(45, "Returns the number of ticks.", () -> {
            due(0, new CutleryOrchestra().playedTicks());
            due(960, States.full().playedTicks());
            CutleryOrchestra x = States.full();
            x.undo();
            due(0, x.playedTicks());
        });
    }

    private void soundedTicks() {
        test(46, "Returns the number of ticks that have been played so far and in which a part sounded.", () -> {
            CutleryOrchestra x = duet();
            x.setBar(1);
            int[] first = {0, 1, 2, 2, 2, 3, 4, 5, 5, 5, 6};
            int[] third = {0, 1, 1, 1, 2, 2, 3, 3, 3, 4, 4};
            for (int tick = 0; tick <= 10; tick++) {
                due(first[tick], x.soundedTicks(0));
                due(0, x.soundedTicks(1));
                due(third[tick], x.soundedTicks(2));
                x.play(1);
            }
            // What has been played stays so without the notes, and when there are other notes.
            int sounded = x.soundedTicks(0);
            x.removeLast(0);
            x.transpose(0, 1);
            due(sounded, x.soundedTicks(0));
        });
        indexArgument(46, "- `part`: the index of a part", 40, 30, (x, part) -> {
            x.setBar(40);
            x.play(1);
            return x.soundedTicks(part);
        });
        test(46, NO_PART, () -> noSuchPart((x, part) -> x.soundedTicks(part)));
        test(46, "Returns the number of ticks.", () -> {
            due(0, Check.withParts(1).soundedTicks(0));
            due(960, States.full().soundedTicks(4));
            CutleryOrchestra x = Check.withParts(2);
            x.addRest(0, 1);
            x.play(20);
            due(0, x.soundedTicks(0));
            due(0, x.soundedTicks(1));
        });
    }

    private void soloTicks() {
        test(47, "Returns the number of ticks that have been played so far and were solos of a part.", () -> {
            CutleryOrchestra x = duet();
            x.setBar(1);
            int[] first = {0, 0, 1, 1, 1, 2, 2, 3, 3, 3, 4};
            int[] third = {0, 0, 0, 0, 1, 1, 1, 1, 1, 2, 2};
            for (int tick = 0; tick <= 10; tick++) {
                due(first[tick], x.soloTicks(0));
                due(0, x.soloTicks(1));
                due(third[tick], x.soloTicks(2));
                x.play(1);
            }
            // A part that sounds in each tick from now on takes no solo back.
            int solos = x.soloTicks(0);
            x.addNote(1, 3, 1);
            x.play(1);
            due(solos, x.soloTicks(0));
        });
        test(47, "- `part`: the index of a part", () -> {
            CutleryOrchestra x = Check.withParts(5);
            Check.add(x, 0, "1*1 -*2");
            Check.add(x, 4, "-*1 1*2");
            x.setBar(3);
            x.play(1);
            due(1, x.soloTicks(0));
            due(2, x.soloTicks(4));
            thrown(Check.INDEX, () -> x.soloTicks(-1));
            thrown(Check.INDEX, () -> x.soloTicks(5));
        });
        test(47, NO_PART, () -> noSuchPart((x, part) -> x.soloTicks(part)));
        test(47, "Returns the number of ticks.", () -> {
            due(0, Check.withParts(1).soloTicks(0));
            due(0, States.full().soloTicks(4));
            CutleryOrchestra x = loudest();
            x.play(20);
            due(960, x.soloTicks(0));
        });
    }

    private void solosAhead() {
        test(48, "Returns how many of the ticks of the next bars would be solos.", () -> {
            CutleryOrchestra x = duet();
            x.setBar(4);
            // Ticks 0 to 4 have the solos 0 1 0 1 1, and so it goes on.
            due(2, x.solosAhead(1));
            due(4, x.solosAhead(2));
            due(12, x.solosAhead(5));
            x.play(1);
            due(2, x.solosAhead(1));
            // It plays nothing.
            due(4, x.playedTicks());
            due(1, x.soloTicks(2));
        });
        range(48, BARS, 1, 48, 20, 960, PlaySentences::loudest, (x, bars) -> x.solosAhead(bars));
        test(48, "Returns the number of ticks.", () -> {
            due(0, new CutleryOrchestra().solosAhead(1));
            due(0, Check.withParts(5).solosAhead(20));
            due(0, States.full().solosAhead(20));
            due(960, loudest().solosAhead(20));
        });
        test(48, NO_BARS, () -> refusesNumbers(States::busy, (x, bars) -> x.solosAhead(bars), 0, 21, -1));
    }

    private void meanPitch() {
        test(49, "Returns the mean pitch of a part: the sum of the pitches of its notes that are not rests divided by"
            + " their number, both converted to double.", () -> {
            CutleryOrchestra x = Check.withParts(1);
            Check.add(x, 0, "0*1 -*12 35*12 0*12");
            due(35.0 / 3.0, x.meanPitch(0));
            x.removeLast(0);
            due(17.5, x.meanPitch(0));
            x.removeLast(0);
            due(0.0, x.meanPitch(0));
        });
        partArgument(49, 0.0, 35.0, (x, part) -> x.meanPitch(part));
        test(49, "Returns the mean pitch.", () -> {
            CutleryOrchestra x = Check.withParts(1);
            x.addNote(0, 0, 1);
            due(0.0, x.meanPitch(0));
            due(35.0, States.full().meanPitch(4));
        });
        test(49, "Throws `ArithmeticException` if the part has no pitches", () -> {
            thrown(Check.ARITHMETIC, () -> Check.withParts(1).meanPitch(0));
            changesNothing(Check.ARITHMETIC, States::busy, x -> x.meanPitch(2));
            CutleryOrchestra x = Check.withParts(1);
            x.addRest(0, 12);
            thrown(Check.ARITHMETIC, () -> x.meanPitch(0));
            x.addNote(0, 7, 1);
            due(7.0, x.meanPitch(0));
            x.removeLast(0);
            thrown(Check.ARITHMETIC, () -> x.meanPitch(0));
        });
    }

    private static Supplier<CutleryOrchestra> with(String notes) {
        return () -> {
            CutleryOrchestra x = Check.withParts(1);
            Check.add(x, 0, notes);
            return x;
        };
    }

    private void restShare() {
        test(50, "Returns the share of rests in a part: the sum of the lengths of its rests divided by the length of"
            + " the part, both converted to float.", () -> {
            due(2f / 3f, with("-*1 0*1 -*1").get().restShare(0));
            due(1f / 12f, with("-*1 0*11").get().restShare(0));
            due(10f / 46f, States.five().restShare(4));
            due(108f / 109f, with("-*12 -*12 -*12 -*12 -*12 -*12 -*12 -*12 -*12 0*1").get().restShare(0));
            due(1f / 109f, with("0*12 0*12 0*12 0*12 0*12 0*12 0*12 0*12 0*12 -*1").get().restShare(0));
        });
        partArgument(50, 0f, 10f / 46f, (x, part) -> x.restShare(part));
        test(50, "Returns the share.", () -> {
            due(0f, States.full().restShare(4));
            due(1f, with("-*12").get().restShare(0));
            due(1f, with("-*1 -*2 -*3").get().restShare(0));
        });
        test(50, "Throws `ArithmeticException` if the part has no notes",
            () -> noShare((x, part) -> x.restShare(part), 1f));
    }

    private void noShare(OnNumber share, Object ofRests) {
        thrown(Check.ARITHMETIC, () -> share.call(Check.withParts(1), 0));
        changesNothing(Check.ARITHMETIC, States::busy, x -> share.call(x, 2));
        CutleryOrchestra x = with("-*1").get();
        due(ofRests, share.call(x, 0));
        x.removeLast(0);
        thrown(Check.ARITHMETIC, () -> share.call(x, 0));
    }

    private void restShareBits() {
        test(51, "Returns the bits of restShare, as Float.floatToIntBits gives them.", () -> {
            due(0x3f2aaaab, with("-*1 0*1 -*1").get().restShareBits(0));
            due(0x3daaaaab, with("-*1 0*11").get().restShareBits(0));
            due(0x3eaaaaab, with("-*1 0*2").get().restShareBits(0));
            due(0x3f000000, with("-*1 0*1").get().restShareBits(0));
            due(0x3e800000, with("-*1 0*3").get().restShareBits(0));
            due(Float.floatToIntBits(1f / 109f),
                with("0*12 0*12 0*12 0*12 0*12 0*12 0*12 0*12 0*12 -*1").get().restShareBits(0));
            due(Float.floatToIntBits(108f / 109f),
                with("-*12 -*12 -*12 -*12 -*12 -*12 -*12 -*12 -*12 0*1").get().restShareBits(0));
        });
        partArgument(51, 0, Float.floatToIntBits(10f / 46f), (x, part) -> x.restShareBits(part));
        test(51, "Returns the bits.", () -> {
            due(0, States.full().restShareBits(4));
            due(0x3f800000, with("-*12").get().restShareBits(0));
        });
        test(51, "Throws `ArithmeticException` if the part has no notes",
            () -> noShare((x, part) -> x.restShareBits(part), 0x3f800000));
    }

    private void isConsistent() {
        test(52, "Checks the data: for all parts, both ways to find the period, the circle, and the nearest denominator"
            + " for the limits 1 to 20 agree, periods for parts with notes; for all pairs of different parts, both ways"
            + " to find the common theme agree; both ways to find when all parts end together agree or both throw an"
            + " exception; and both ways to find the start agree for the bars 0 to 99.", () -> {
            // No parts; parts without notes; one part; parts that end together too late.
            due(true, new CutleryOrchestra().isConsistent());
            due(true, Check.withParts(5).isConsistent());
            due(true, loudest().isConsistent());
            CutleryOrchestra x = Check.withParts(5);
            int[] lengths = {113, 109, 107, 103, 101};
            for (int part = 0; part < 5; part++) {
                for (int left = lengths[part]; left > 0; left -= 12) {
                    x.addNote(part, 1, Math.min(left, 12));
                }
            }
            thrown(Check.ELEMENT, x::togetherAfter);
            due(true, x.isConsistent());
            // It changes nothing.
            CutleryOrchestra y = States.busy();
            y.isConsistent();
            due(States.told(States.busy()), States.told(y));
            due(States.output(States.busy()), States.output(y));
            due(States.rejection(States.busy()), States.rejection(y));
        });
        test(52, "Returns whether all this is true.", () -> {
            due(true, States.busy().isConsistent());
            due(true, States.five().isConsistent());
            due(true, States.full().isConsistent());
        });
    }
}
