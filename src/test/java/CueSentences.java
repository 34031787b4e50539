/** The sentences of promises 31 to 36: cues. */
final class CueSentences extends SentenceTest {
    CueSentences(Check check, Book book) {
        super(check, book);
    }

    @Override
    void run() {
        setCue();
        removeCue();
        cueOf();
        cueDepth();
        OnNumber speeds = CutleryOrchestra::circleLength;
        OnNumber marks = CutleryOrchestra::circleLengthByMarks;
        test(35, "Returns the number of parts in the circle to which the cues lead from a part, found by following them"
            + " at two speeds.", () -> circles(speeds));
        circle(35, "Returns the number of parts, 0 if the cues end.", speeds);
        test(36, "Returns the same number in a second way: by marking the parts on the way.", () -> circles(marks));
        circle(36, "Returns the same number.", marks);
    }

    /** Each part takes its cue from the one that is named here; from none if that is -1. */
    private static CutleryOrchestra cued(int... cues) {
        CutleryOrchestra x = Check.withParts(cues.length);
        for (int part = 0; part < cues.length; part++) {
            if (cues[part] >= 0) {
                x.setCue(part, cues[part]);
            }
        }
        return x;
    }

    private void setCue() {
        test(31, "Lets a part take its cue from another part, in place of an earlier cue.", () -> {
            CutleryOrchestra x = cued(-1, -1, -1, -1, -1);
            x.setCue(0, 4);
            due(4, x.cueOf(0));
            thrown(Check.ELEMENT, () -> x.cueOf(4));
            x.setCue(4, 0);
            due(0, x.cueOf(4));
            due(4, x.cueOf(0));
            x.setCue(0, 1);
            due(1, x.cueOf(0));
            x.setCue(0, 4);
            due(4, x.cueOf(0));
        });
        indexArgument(31, "- `part`: the index of a part", 5, 4, (x, part) -> x.setCue(part, 2));
        test(31, "- `other`: the index of another part", () -> {
            CutleryOrchestra x = cued(-1, -1, -1, -1, -1);
            due(1, x.setCue(2, 0));
            due(1, x.setCue(2, 4));
            thrown(Check.INDEX, () -> x.setCue(2, -1));
            thrown(Check.INDEX, () -> x.setCue(2, 5));
            due(4, x.cueOf(2));
        });
        test(31, "Returns the number of parts with a cue after the call.", () -> {
            CutleryOrchestra x = cued(-1, -1, -1, -1, -1);
            for (int part = 0; part < 5; part++) {
                due(part + 1, x.setCue(part, (part + 1) % 5));
            }
            due(5, x.setCue(0, 2));
        });
        test(31, "Throws `IndexOutOfBoundsException` if there is no such part, for part or other", () -> {
            noSuchPart((x, part) -> x.setCue(part, 0));
            noSuchPart((x, part) -> x.setCue(0, part));
            noSuchPart((x, part) -> x.setCue(part, part));
        });
        test(31, "Throws `IllegalArgumentException` if both parts are the same", () -> {
            changesNothing(Check.ARGUMENT, States::busy, x -> x.setCue(0, 0));
            changesNothing(Check.ARGUMENT, States::busy, x -> x.setCue(1, 1));
            changesNothing(Check.ARGUMENT, States::full, x -> x.setCue(4, 4));
            changesNothing(Check.ARGUMENT, () -> Check.withParts(1), x -> x.setCue(0, 0));
        });
        test(31, "Throws `UnsupportedOperationException` if the call is rejected with the reason SAME_CUE", () -> {
            rejected(CutleryOrchestra.SAME_CUE, 1, () -> cued(1, -1), x -> x.setCue(0, 1));
            rejected(CutleryOrchestra.SAME_CUE, 2, States::busy, x -> x.setCue(0, 2));
            rejected(CutleryOrchestra.SAME_CUE, 5, States::full, x -> x.setCue(4, 0));
            due(2, cued(1, -1).setCue(1, 0));
        });
    }

    private void removeCue() {
        test(32, "Removes the cue of a part.", () -> {
            CutleryOrchestra x = cued(4, 4, 4, 4, 0);
            x.removeCue(4);
            thrown(Check.ELEMENT, () -> x.cueOf(4));
            due(4, x.cueOf(0));
            due(4, x.cueOf(3));
            due(5, x.setCue(4, 0));
        });
        test(32, "- `part`: the index of a part", () -> {
            due(4, States.full().removeCue(0));
            due(4, States.full().removeCue(4));
            thrown(Check.INDEX, () -> States.full().removeCue(-1));
            thrown(Check.INDEX, () -> States.full().removeCue(5));
        });
        test(32, NO_PART, () -> noSuchPart((x, part) -> x.removeCue(part)));
        test(32, "Returns the number of parts with a cue after the call.", () -> {
            CutleryOrchestra x = States.full();
            for (int part = 4; part >= 0; part--) {
                due(part, x.removeCue(part));
            }
        });
        test(32, "Throws `UnsupportedOperationException` if the call is rejected with the reason NO_CUE", () -> {
            rejected(CutleryOrchestra.NO_CUE, 0, () -> Check.withParts(1), x -> x.removeCue(0));
            rejected(CutleryOrchestra.NO_CUE, 2, States::busy, x -> x.removeCue(1));
            rejected(CutleryOrchestra.NO_CUE, 4, States::five, x -> x.removeCue(0));
            CutleryOrchestra x = cued(1, -1);
            due(0, x.removeCue(0));
            thrown(Check.REJECTED, () -> x.removeCue(0));
        });
    }

    private void cueOf() {
        test(33, "Returns the part from which a part takes its cue.", () -> {
            CutleryOrchestra x = cued(1, 2, 0);
            due(1, x.cueOf(0));
            due(2, x.cueOf(1));
            due(0, x.cueOf(2));
        });
        test(33, "- `part`: the index of a part", () -> {
            due(1, States.full().cueOf(0));
            due(0, States.full().cueOf(4));
            thrown(Check.INDEX, () -> States.full().cueOf(-1));
            thrown(Check.INDEX, () -> States.full().cueOf(5));
        });
        test(33, NO_PART, () -> noSuchPart((x, part) -> x.cueOf(part)));
        test(33, "Returns the index of the part.", () -> {
            due(0, cued(-1, -1, -1, -1, 0).cueOf(4));
            due(4, cued(4, -1, -1, -1, -1).cueOf(0));
        });
        test(33, "Throws `NoSuchElementException` if it has no cue", () -> {
            thrown(Check.ELEMENT, () -> Check.withParts(1).cueOf(0));
            // Another part takes its cue from it.
            thrown(Check.ELEMENT, () -> cued(1, -1).cueOf(1));
            changesNothing(Check.ELEMENT, States::busy, x -> x.cueOf(1));
            CutleryOrchestra x = cued(1, 0);
            x.removeCue(1);
            thrown(Check.ELEMENT, () -> x.cueOf(1));
        });
    }

    private void cueDepth() {
        test(34, "Returns the number of cues that are followed from a part, from cue to cue, until a part without a"
            + " cue.", () -> {
            CutleryOrchestra x = cued(1, 2, 3, 4, -1);
            for (int part = 0; part < 5; part++) {
                due(4 - part, x.cueDepth(part));
            }
            x.removeCue(2);
            due(2, x.cueDepth(0));
            due(0, x.cueDepth(2));
            due(1, x.cueDepth(3));
        });
        test(34, "- `part`: the index of a part", () -> {
            due(4, cued(1, 2, 3, 4, -1).cueDepth(0));
            due(0, cued(1, 2, 3, 4, -1).cueDepth(4));
            thrown(Check.INDEX, () -> cued(1, 2, 3, 4, -1).cueDepth(-1));
            thrown(Check.INDEX, () -> cued(1, 2, 3, 4, -1).cueDepth(5));
        });
        test(34, NO_PART, () -> noSuchPart((x, part) -> x.cueDepth(part)));
        test(34, "Returns the number of cues.", () -> {
            due(0, Check.withParts(1).cueDepth(0));
            due(0, cued(-1, 0, 0, 0, 0).cueDepth(0));
            due(1, cued(-1, 0, 0, 0, 0).cueDepth(4));
            due(4, cued(-1, 0, 1, 2, 3).cueDepth(4));
        });
        test(34, "Throws `NoSuchElementException` if there is no end, as a part comes again", () -> {
            thrown(Check.ELEMENT, () -> cued(1, 0).cueDepth(0));
            thrown(Check.ELEMENT, () -> cued(1, 2, 3, 4, 0).cueDepth(4));
            // The way leads to the circle, and is no part of it.
            thrown(Check.ELEMENT, () -> cued(1, 2, 3, 4, 3).cueDepth(0));
            thrown(Check.ELEMENT, () -> cued(-1, 0, 3, 2, 2).cueDepth(4));
            due(1, cued(-1, 0, 3, 2, 2).cueDepth(1));
            changesNothing(Check.ELEMENT, States::full, x -> x.cueDepth(4));
        });
    }

    private void circles(OnNumber circle) {
        for (int part = 0; part < 5; part++) {
            due(5, circle.call(cued(1, 2, 3, 4, 0), part));
            due(4, circle.call(cued(1, 2, 3, 4, 1), part));
            due(3, circle.call(cued(1, 2, 3, 4, 2), part));
            due(2, circle.call(cued(1, 2, 3, 4, 3), part));
            due(0, circle.call(cued(1, 2, 3, 4, -1), part));
            due(part < 4 ? 2 : 0, circle.call(cued(1, 0, 3, 2, -1), part));
            due(part < 2 ? 2 : 3, circle.call(cued(1, 0, 3, 4, 2), part));
        }
    }

    private void circle(int promise, String answer, OnNumber circle) {
        partArgument(promise, 0, 2, circle);
        test(promise, answer, () -> {
            due(0, circle.call(Check.withParts(1), 0));
            due(0, circle.call(cued(1, -1), 0));
            due(2, circle.call(cued(1, 0), 0));
            due(5, circle.call(States.full(), 4));
            CutleryOrchestra x = States.full();
            x.removeCue(2);
            due(0, circle.call(x, 3));
        });
    }
}
