import java.util.NoSuchElementException;

/** An orchestra whose parts are played again and again. README.md tells how to use it. */
public final class CutleryOrchestra {
    public static final int PART_LIMIT = 1;
    public static final int NOTE_LIMIT = 2;
    public static final int NO_NOTES = 3;
    public static final int TOO_HIGH_OR_LOW = 4;
    public static final int SAME_CUE = 5;
    public static final int NO_CUE = 6;
    public static final int TEMPO_LIMIT = 7;
    public static final int SILENT = 8;
    public static final int COMMAND_REJECTED = 9;

    private static final int MAX_PARTS = 5;
    private static final int MAX_NOTES = 10;
    private static final int MAX_PITCH = 35;
    private static final int MAX_NOTE_TICKS = 12;
    private static final int MAX_TICK = 999999;
    private static final int MAX_TUNING = 99;
    private static final int MAX_NEAREST = 20;
    private static final int FIRST_BAR_TICKS = 8;
    private static final int MAX_BAR_TICKS = 48;
    private static final int MAX_BAR = 999;
    private static final int MAX_TEMPOS = 6;
    private static final int FIRST_TEMPO = 60;
    private static final int MIN_TEMPO = 30;
    private static final int MAX_TEMPO = 240;
    private static final int TICK_MILLIS_AT_TEMPO_ONE = 15000;
    private static final int MAX_BARS_AT_ONCE = 20;
    private static final int MAX_CHECKED_BAR = 99;
    private static final int MAX_UNDOS = 8;
    private static final int MIN_CHARACTER = 32;
    private static final int MAX_CHARACTER = 126;
    private static final int MAX_INPUT = 60;

    /** Stands for no index, no number of ticks, and in a note for no pitch. */
    private static final int NONE = -1;

    // What an action answers when it fails: one of these two, or a reason with a minus.
    private static final int NO_SUCH_PART = -10;
    private static final int BAD_ARGUMENT = -11;

    private final Score score = new Score();
    private final Score snapshot = new Score();
    private final History history = new History();
    private final Patterns patterns = new Patterns();
    private final CommandReader reader = new CommandReader();
    private final StringBuilder output = new StringBuilder();
    private boolean hasSnapshot;
    private int latestReason;
    private int latestDetail;
    private int latestCause;
    private int latestErrorOffset = NONE;

    public CutleryOrchestra() {
    }

    // ---- parts and notes

    public int addPart() throws UnsupportedOperationException {
        return change(Action.PART, 0, 0, 0);
    }

    public int addNote(int part, int pitch, int length)
            throws IndexOutOfBoundsException, IllegalArgumentException, UnsupportedOperationException {
        return change(Action.NOTE, part, pitch, length);
    }

    public int addRest(int part, int length)
            throws IndexOutOfBoundsException, IllegalArgumentException, UnsupportedOperationException {
        return change(Action.REST, part, length, 0);
    }

    public int removeLast(int part) throws IndexOutOfBoundsException, UnsupportedOperationException {
        return change(Action.LAST, part, 0, 0);
    }

    public int transpose(int part, int by)
            throws IndexOutOfBoundsException, IllegalArgumentException, UnsupportedOperationException {
        return change(Action.MOVE, part, by, 0);
    }

    public int partCount() {
        return score.partTotal;
    }

    public int noteCount(int part) throws IndexOutOfBoundsException {
        return partOf(part).size;
    }

    public boolean isRest(int part, int note) throws IndexOutOfBoundsException {
        return partWith(part, note).pitches[note] == NONE;
    }

    public int pitchOf(int part, int note) throws IndexOutOfBoundsException, NoSuchElementException {
        int pitch = partWith(part, note).pitches[note];
        if (pitch == NONE) {
            throw new NoSuchElementException("the note is a rest");
        }
        return pitch;
    }

    public int lengthOf(int part, int note) throws IndexOutOfBoundsException {
        return partWith(part, note).lengths[note];
    }

    public int partLength(int part) throws IndexOutOfBoundsException {
        return partOf(part).ticks;
    }

    // ---- ticks

    public int noteAt(int part, int tick)
            throws IndexOutOfBoundsException, IllegalArgumentException, NoSuchElementException {
        Part chosen = partOf(part);
        requireRange(tick, 0, MAX_TICK);
        return found(chosen.noteIn(tick));
    }

    public int soundingAt(int tick) throws IllegalArgumentException {
        requireRange(tick, 0, MAX_TICK);
        return score.partsSoundingIn(tick);
    }

    public long chordAt(int tick) throws IllegalArgumentException {
        requireRange(tick, 0, MAX_TICK);
        return score.chordIn(tick);
    }

    public int togetherAfter() throws NoSuchElementException {
        return found(score.togetherByMultiples());
    }

    public int togetherAfterBySteps() throws NoSuchElementException {
        return found(score.togetherBySteps());
    }

    // ---- patterns

    public int period(int part) throws IndexOutOfBoundsException, NoSuchElementException {
        return patterns.periodByWalk(partWithNotes(part));
    }

    public int periodByTrying(int part) throws IndexOutOfBoundsException, NoSuchElementException {
        return patterns.periodByTrial(partWithNotes(part));
    }

    public int commonTheme(int first, int second) throws IndexOutOfBoundsException {
        return patterns.themeByTable(partOf(first), partOf(second));
    }

    public int commonThemeByTrying(int first, int second) throws IndexOutOfBoundsException {
        return patterns.themeByTrial(partOf(first), partOf(second));
    }

    // ---- tunings

    public int setTuning(int part, int numerator, int denominator)
            throws IndexOutOfBoundsException, IllegalArgumentException {
        return change(Action.TUNE, part, numerator, denominator);
    }

    public int tuningNumerator(int part) throws IndexOutOfBoundsException {
        return partOf(part).numerator;
    }

    public int tuningDenominator(int part) throws IndexOutOfBoundsException {
        return partOf(part).denominator;
    }

    public int nearestNumerator(int part, int limit) throws IndexOutOfBoundsException, IllegalArgumentException {
        Part chosen = partOf(part);
        requireRange(limit, 1, MAX_NEAREST);
        int denominator = Fractions.nearestByDescent(chosen.numerator, chosen.denominator, limit);
        return Fractions.nearestOver(denominator, chosen.numerator, chosen.denominator);
    }

    public int nearestDenominator(int part, int limit) throws IndexOutOfBoundsException, IllegalArgumentException {
        Part chosen = partOf(part);
        requireRange(limit, 1, MAX_NEAREST);
        return Fractions.nearestByDescent(chosen.numerator, chosen.denominator, limit);
    }

    public int nearestDenominatorByTrying(int part, int limit)
            throws IndexOutOfBoundsException, IllegalArgumentException {
        Part chosen = partOf(part);
        requireRange(limit, 1, MAX_NEAREST);
        return Fractions.nearestByTrial(chosen.numerator, chosen.denominator, limit);
    }

    public int intervalNumerator(int first, int second) throws IndexOutOfBoundsException {
        Part upper = partOf(first);
        Part lower = partOf(second);
        return Fractions.reduced(upper.numerator * lower.denominator, upper.denominator * lower.numerator);
    }

    public int intervalDenominator(int first, int second) throws IndexOutOfBoundsException {
        Part upper = partOf(first);
        Part lower = partOf(second);
        return Fractions.reduced(upper.denominator * lower.numerator, upper.numerator * lower.denominator);
    }

    public int partByTuning(int position) throws NoSuchElementException {
        return found(score.partAtPosition(position));
    }

    // ---- cues

    public int setCue(int part, int other)
            throws IndexOutOfBoundsException, IllegalArgumentException, UnsupportedOperationException {
        return change(Action.CUE, part, other, 0);
    }

    public int removeCue(int part) throws IndexOutOfBoundsException, UnsupportedOperationException {
        return change(Action.ALONE, part, 0, 0);
    }

    public int cueOf(int part) throws IndexOutOfBoundsException, NoSuchElementException {
        requirePart(part);
        return found(score.cues.after(part));
    }

    public int cueDepth(int part) throws IndexOutOfBoundsException, NoSuchElementException {
        requirePart(part);
        return found(score.cues.depthFrom(part));
    }

    public int circleLength(int part) throws IndexOutOfBoundsException {
        requirePart(part);
        return score.cues.circleByTwoSpeeds(part);
    }

    public int circleLengthByMarks(int part) throws IndexOutOfBoundsException {
        requirePart(part);
        return score.cues.circleWithMarks(part);
    }

    // ---- bars and tempos

    public int setBar(int ticks) throws IllegalArgumentException {
        return change(Action.BAR, ticks, 0, 0);
    }

    public int barLength() {
        return score.barTicks;
    }

    public int barsOf(int part) throws IndexOutOfBoundsException, NoSuchElementException {
        return found(score.wholeBars(partOf(part).ticks));
    }

    public int setTempo(int bar, int tempo) throws IllegalArgumentException, UnsupportedOperationException {
        return change(Action.TEMPO, bar, tempo, 0);
    }

    public int tempoAt(int bar) throws IllegalArgumentException {
        requireRange(bar, 0, MAX_BAR);
        return score.tempos.tempoIn(bar);
    }

    public long startOfBar(int bar) throws IllegalArgumentException {
        requireRange(bar, 0, MAX_BAR);
        return score.tempos.startBarByBar(bar, score.barTicks);
    }

    public long startOfBarByTempos(int bar) throws IllegalArgumentException {
        requireRange(bar, 0, MAX_BAR);
        return score.tempos.startTempoByTempo(bar, score.barTicks);
    }

    // ---- playing

    public int play(int bars) throws IllegalArgumentException, UnsupportedOperationException {
        return change(Action.PLAY, bars, 0, 0);
    }

    public int playedTicks() {
        return score.played;
    }

    public int soundedTicks(int part) throws IndexOutOfBoundsException {
        return partOf(part).sounded;
    }

    public int soloTicks(int part) throws IndexOutOfBoundsException {
        return partOf(part).solos;
    }

    public int solosAhead(int bars) throws IllegalArgumentException {
        requireRange(bars, 1, MAX_BARS_AT_ONCE);
        return score.solosInNext(bars);
    }

    public double meanPitch(int part) throws IndexOutOfBoundsException, ArithmeticException {
        Part chosen = partOf(part);
        int count = chosen.pitchTotal();
        if (count == 0) {
            throw new ArithmeticException("the part has no pitches");
        }
        return (double) chosen.pitchSum() / (double) count;
    }

    public float restShare(int part) throws IndexOutOfBoundsException, ArithmeticException {
        return shareOfRests(partOf(part));
    }

    public int restShareBits(int part) throws IndexOutOfBoundsException, ArithmeticException {
        return Fractions.bitsOfShare(shareOfRests(partOf(part)));
    }

    public boolean isConsistent() {
        return score.togetherByMultiples() == score.togetherBySteps()
            && partsAgree() && themesAgree() && startsAgree();
    }

    // ---- text output

    public int writePart(int part) throws IndexOutOfBoundsException {
        Part chosen = partOf(part);
        output.setLength(0);
        output.append(part).append('(').append(chosen.numerator).append('/').append(chosen.denominator).append(')');
        int cue = score.cues.after(part);
        if (cue != NONE) {
            output.append('>').append(cue);
        }
        chosen.writeNotes(output);
        return output.length();
    }

    public char outputAt(int index) throws IndexOutOfBoundsException {
        if (index < 0 || index >= output.length()) {
            throw new IndexOutOfBoundsException("no such character");
        }
        return output.charAt(index);
    }

    // ---- commands

    public int appendInput(char character) throws IllegalArgumentException, IllegalStateException {
        requireRange(character, MIN_CHARACTER, MAX_CHARACTER);
        if (reader.isFull()) {
            throw new IllegalStateException("the input is full");
        }
        return reader.accept(character);
    }

    public int execute() throws IllegalArgumentException, IllegalStateException, UnsupportedOperationException {
        int errorOffset = reader.readCommands();
        reader.clear();
        if (errorOffset != NONE) {
            latestErrorOffset = errorOffset;
            throw new IllegalArgumentException("the input has a syntax error");
        }
        history.prepare(score);
        for (int number = 0; number < reader.total; number++) {
            int answer = reader.performOn(score, number);
            if (answer < 0) {
                history.rollBack(score);
                refuseCommand(number, answer);
            }
        }
        history.commit();
        return reader.total;
    }

    public int syntaxErrorOffset() throws NoSuchElementException {
        return found(latestErrorOffset);
    }

    // ---- rejections and history

    public int rejectionReason() throws NoSuchElementException {
        requireRejection();
        return latestReason;
    }

    public int rejectionDetail() throws NoSuchElementException {
        requireRejection();
        return latestDetail;
    }

    public int causeReason() throws NoSuchElementException {
        if (latestReason != COMMAND_REJECTED) {
            throw new NoSuchElementException("no command was rejected latest");
        }
        return latestCause;
    }

    public int undo() throws IllegalStateException {
        if (history.count == 0) {
            throw new IllegalStateException("there is no change to undo");
        }
        history.stepBack(score);
        return history.count;
    }

    public int saveSnapshot() {
        snapshot.become(score);
        hasSnapshot = true;
        return score.partTotal;
    }

    public int restoreSnapshot() throws IllegalStateException {
        if (!hasSnapshot) {
            throw new IllegalStateException("there is no snapshot");
        }
        score.become(snapshot);
        history.forget();
        return score.partTotal;
    }

    // ---- what the calls share

    private int change(Action action, int first, int second, int third) {
        history.prepare(score);
        int answer = score.perform(action, first, second, third);
        if (answer == NO_SUCH_PART) {
            throw new IndexOutOfBoundsException("no such part");
        }
        if (answer == BAD_ARGUMENT) {
            throw new IllegalArgumentException("out of range");
        }
        if (answer < 0) {
            latestReason = -answer;
            latestDetail = score.refusalDetail;
            throw new UnsupportedOperationException("rejected");
        }
        history.commit();
        return answer;
    }

    private void refuseCommand(int number, int answer) {
        if (answer == NO_SUCH_PART || answer == BAD_ARGUMENT) {
            throw new IllegalStateException("a command fails");
        }
        latestReason = COMMAND_REJECTED;
        latestDetail = number;
        latestCause = -answer;
        throw new UnsupportedOperationException("a command is rejected");
    }

    private void requirePart(int part) {
        if (!score.has(part)) {
            throw new IndexOutOfBoundsException("no such part");
        }
    }

    private Part partOf(int part) {
        requirePart(part);
        return score.parts[part];
    }

    private Part partWith(int part, int note) {
        Part chosen = partOf(part);
        if (note < 0 || note >= chosen.size) {
            throw new IndexOutOfBoundsException("no such note");
        }
        return chosen;
    }

    private Part partWithNotes(int part) {
        Part chosen = partOf(part);
        if (chosen.size == 0) {
            throw new NoSuchElementException("the part has no notes");
        }
        return chosen;
    }

    private void requireRejection() {
        if (latestReason == 0) {
            throw new NoSuchElementException("no call was rejected");
        }
    }

    private static void requireRange(int value, int least, int greatest) {
        if (!isWithin(value, least, greatest)) {
            throw new IllegalArgumentException("out of range");
        }
    }

    private static boolean isWithin(int value, int least, int greatest) {
        return value >= least && value <= greatest;
    }

    private static int found(int answer) {
        if (answer == NONE) {
            throw new NoSuchElementException("there is none");
        }
        return answer;
    }

    private static float shareOfRests(Part part) {
        if (part.ticks == 0) {
            throw new ArithmeticException("the part has no notes");
        }
        return (float) part.restTicks() / (float) part.ticks;
    }

    private boolean partsAgree() {
        for (int i = 0; i < score.partTotal; i++) {
            Part part = score.parts[i];
            if (patterns.periodByWalk(part) != patterns.periodByTrial(part)
                || score.cues.circleByTwoSpeeds(i) != score.cues.circleWithMarks(i)
                || !nearestAgree(part)) {
                return false;
            }
        }
        return true;
    }

    private static boolean nearestAgree(Part part) {
        for (int limit = 1; limit <= MAX_NEAREST; limit++) {
            if (Fractions.nearestByDescent(part.numerator, part.denominator, limit)
                != Fractions.nearestByTrial(part.numerator, part.denominator, limit)) {
                return false;
            }
        }
        return true;
    }

    private boolean themesAgree() {
        for (int i = 0; i < score.partTotal; i++) {
            for (int j = i + 1; j < score.partTotal; j++) {
                if (patterns.themeByTable(score.parts[i], score.parts[j])
                    != patterns.themeByTrial(score.parts[i], score.parts[j])) {
                    return false;
                }
            }
        }
        return true;
    }

    private boolean startsAgree() {
        for (int bar = 0; bar <= MAX_CHECKED_BAR; bar++) {
            if (score.tempos.startBarByBar(bar, score.barTicks)
                != score.tempos.startTempoByTempo(bar, score.barTicks)) {
                return false;
            }
        }
        return true;
    }

    /** What changes the data: each is a call of the face, and a command in a form that CommandReader reads. */
    private enum Action {
        PART("part"),
        NOTE("note D N N"),
        REST("rest D N"),
        LAST("last D"),
        MOVE("move D S"),
        TUNE("tune D N/N"),
        CUE("cue D>D"),
        ALONE("alone D"),
        BAR("bar N"),
        TEMPO("tempo N N"),
        PLAY("play N");

        private static final Action[] ALL = values();

        private final String form;

        Action(String form) {
            this.form = form;
        }
    }

    /** A part with its tuning and what has been played of it. */
    private static final class Part {
        private final int[] pitches = new int[MAX_NOTES];
        private final int[] lengths = new int[MAX_NOTES];
        private int size;
        private int ticks;
        private int numerator = 1;
        private int denominator = 1;
        private int sounded;
        private int solos;

        void become(Part other) {
            System.arraycopy(other.pitches, 0, pitches, 0, MAX_NOTES);
            System.arraycopy(other.lengths, 0, lengths, 0, MAX_NOTES);
            size = other.size;
            ticks = other.ticks;
            numerator = other.numerator;
            denominator = other.denominator;
            sounded = other.sounded;
            solos = other.solos;
        }

        void append(int pitch, int length) {
            if (size < MAX_NOTES) {
                pitches[size] = pitch;
                lengths[size] = length;
                size++;
                ticks += length;
            }
        }

        void dropLast() {
            if (size > 0) {
                size--;
                ticks -= lengths[size];
            }
        }

        int firstOutside(int by) {
            for (int i = 0; i < size; i++) {
                if (pitches[i] != NONE && !isWithin(pitches[i] + by, 0, MAX_PITCH)) {
                    return i;
                }
            }
            return NONE;
        }

        void shiftPitches(int by) {
            for (int i = 0; i < size; i++) {
                if (pitches[i] != NONE) {
                    pitches[i] += by;
                }
            }
        }

        int pitchTotal() {
            int total = 0;
            for (int i = 0; i < size; i++) {
                if (pitches[i] != NONE) {
                    total++;
                }
            }
            return total;
        }

        int pitchSum() {
            int sum = 0;
            for (int i = 0; i < size; i++) {
                if (pitches[i] != NONE) {
                    sum += pitches[i];
                }
            }
            return sum;
        }

        int restTicks() {
            int sum = 0;
            for (int i = 0; i < size; i++) {
                if (pitches[i] == NONE) {
                    sum += lengths[i];
                }
            }
            return sum;
        }

        int noteIn(int tick) {
            if (ticks < 1) {
                return NONE;
            }
            int left = tick % ticks;
            for (int i = 0; i < size; i++) {
                if (left < lengths[i]) {
                    return i;
                }
                left -= lengths[i];
            }
            return NONE;
        }

        int pitchIn(int tick) {
            int note = noteIn(tick);
            return note == NONE ? NONE : pitches[note];
        }

        boolean endsAfter(int after) {
            return ticks < 1 || after % ticks == 0;
        }

        boolean hasSameAt(int note, Part other, int otherNote) {
            return pitches[note] == other.pitches[otherNote] && lengths[note] == other.lengths[otherNote];
        }

        void writeNotes(StringBuilder text) {
            for (int i = 0; i < size; i++) {
                text.append(' ');
                if (pitches[i] == NONE) {
                    text.append('-');
                } else {
                    text.append(pitches[i]);
                }
                text.append('*').append(lengths[i]);
            }
        }
    }

    /** From which part each part takes its cue. */
    private static final class Cues {
        private final int[] sources = new int[MAX_PARTS];
        private final int[] marks = new int[MAX_PARTS];
        private int total;

        Cues() {
            for (int i = 0; i < MAX_PARTS; i++) {
                sources[i] = NONE;
            }
        }

        void become(Cues other) {
            System.arraycopy(other.sources, 0, sources, 0, MAX_PARTS);
            total = other.total;
        }

        int after(int part) {
            return isWithin(part, 0, MAX_PARTS - 1) ? sources[part] : NONE;
        }

        void put(int part, int source) {
            if (!isWithin(part, 0, MAX_PARTS - 1)) {
                return;
            }
            if (sources[part] != NONE) {
                total--;
            }
            if (source != NONE) {
                total++;
            }
            sources[part] = source;
        }

        int depthFrom(int part) {
            int at = part;
            // A way that goes on for more cues than there can be parts has come to a part again.
            for (int depth = 0; depth < MAX_PARTS; depth++) {
                at = after(at);
                if (at == NONE) {
                    return depth;
                }
            }
            return NONE;
        }

        int circleByTwoSpeeds(int part) {
            int slow = part;
            int fast = part;
            // In a circle the fast one gains a part a step, so both meet before this bound.
            for (int step = 0; step < 2 * MAX_PARTS; step++) {
                slow = after(slow);
                fast = after(after(fast));
                if (fast == NONE) {
                    return 0;
                }
                if (slow == fast) {
                    return roundFrom(slow);
                }
            }
            return 0;
        }

        private int roundFrom(int part) {
            int at = part;
            for (int length = 1; length <= MAX_PARTS; length++) {
                at = after(at);
                if (at == part) {
                    return length;
                }
            }
            return 0;
        }

        int circleWithMarks(int part) {
            for (int i = 0; i < MAX_PARTS; i++) {
                marks[i] = NONE;
            }
            int at = part;
            for (int step = 0; step <= MAX_PARTS && isWithin(at, 0, MAX_PARTS - 1); step++) {
                if (marks[at] != NONE) {
                    return step - marks[at];
                }
                marks[at] = step;
                at = sources[at];
            }
            return 0;
        }
    }

    /** The tempos in the order of the bars for which they are set; the first one is set for the bar 0. */
    private static final class Tempos {
        private final int[] bars = new int[MAX_TEMPOS];
        private final int[] values = new int[MAX_TEMPOS];
        private int size = 1;

        Tempos() {
            values[0] = FIRST_TEMPO;
        }

        void become(Tempos other) {
            System.arraycopy(other.bars, 0, bars, 0, MAX_TEMPOS);
            System.arraycopy(other.values, 0, values, 0, MAX_TEMPOS);
            size = other.size;
        }

        private int entryFor(int bar) {
            int entry = 0;
            for (int i = 1; i < size; i++) {
                if (bars[i] <= bar) {
                    entry = i;
                }
            }
            return entry;
        }

        int tempoIn(int bar) {
            return values[entryFor(bar)];
        }

        int greatestBar() {
            return bars[size - 1];
        }

        boolean hasRoomFor(int bar) {
            return size < MAX_TEMPOS || bars[entryFor(bar)] == bar;
        }

        void put(int bar, int tempo) {
            int entry = entryFor(bar);
            if (bars[entry] != bar && size < MAX_TEMPOS) {
                entry++;
                for (int i = size; i > entry; i--) {
                    bars[i] = bars[i - 1];
                    values[i] = values[i - 1];
                }
                bars[entry] = bar;
                size++;
            }
            if (bars[entry] == bar) {
                values[entry] = tempo;
            }
        }

        private long millisOfBar(int entry, int barTicks) {
            int tempo = values[entry];
            return tempo < 1 ? 0 : barTicks * TICK_MILLIS_AT_TEMPO_ONE / tempo;
        }

        long startBarByBar(int bar, int barTicks) {
            long start = 0;
            int entry = 0;
            for (int i = 0; i < bar; i++) {
                if (entry + 1 < size && bars[entry + 1] == i) {
                    entry++;
                }
                start += millisOfBar(entry, barTicks);
            }
            return start;
        }

        long startTempoByTempo(int bar, int barTicks) {
            long start = 0;
            for (int i = 0; i < size && bars[i] < bar; i++) {
                int end = i + 1 < size ? Math.min(bars[i + 1], bar) : bar;
                start += (end - bars[i]) * millisOfBar(i, barTicks);
            }
            return start;
        }
    }

    /** The data that undo and the snapshot cover, and what changes it. */
    private static final class Score {
        private final Part[] parts = new Part[MAX_PARTS];
        private final Cues cues = new Cues();
        private final Tempos tempos = new Tempos();
        private int partTotal;
        private int barTicks = FIRST_BAR_TICKS;
        private int played;
        /** The detail of the rejection that perform answered last; no data. */
        private int refusalDetail;

        Score() {
            for (int i = 0; i < MAX_PARTS; i++) {
                parts[i] = new Part();
            }
        }

        void become(Score other) {
            // Parts that are not added yet come along: so they are always as new when they are added.
            for (int i = 0; i < MAX_PARTS; i++) {
                parts[i].become(other.parts[i]);
            }
            cues.become(other.cues);
            tempos.become(other.tempos);
            partTotal = other.partTotal;
            barTicks = other.barTicks;
            played = other.played;
        }

        boolean has(int part) {
            return isWithin(part, 0, partTotal - 1);
        }

        int perform(Action action, int first, int second, int third) {
            switch (action) {
                case PART:
                    return includePart();
                case NOTE:
                    return includePitch(first, second, third);
                case REST:
                    return includeNote(first, NONE, second);
                case LAST:
                    return dropNote(first);
                case MOVE:
                    return shift(first, second);
                case TUNE:
                    return tune(first, second, third);
                case CUE:
                    return takeCue(first, second);
                case ALONE:
                    return dropCue(first);
                case BAR:
                    return changeBar(first);
                case TEMPO:
                    return changeTempo(first, second);
                case PLAY:
                    return playNext(first);
                default:
                    return BAD_ARGUMENT;
            }
        }

        private int refused(int reason, int detail) {
            refusalDetail = detail;
            return -reason;
        }

        private int includePart() {
            if (partTotal >= MAX_PARTS) {
                return refused(PART_LIMIT, MAX_PARTS);
            }
            partTotal++;
            return partTotal - 1;
        }

        private int includePitch(int part, int pitch, int length) {
            if (!has(part)) {
                return NO_SUCH_PART;
            }
            if (!isWithin(pitch, 0, MAX_PITCH)) {
                return BAD_ARGUMENT;
            }
            return includeNote(part, pitch, length);
        }

        private int includeNote(int part, int pitch, int length) {
            if (!has(part)) {
                return NO_SUCH_PART;
            }
            if (!isWithin(length, 1, MAX_NOTE_TICKS)) {
                return BAD_ARGUMENT;
            }
            Part chosen = parts[part];
            if (chosen.size >= MAX_NOTES) {
                return refused(NOTE_LIMIT, chosen.ticks);
            }
            chosen.append(pitch, length);
            return chosen.size;
        }

        private int dropNote(int part) {
            if (!has(part)) {
                return NO_SUCH_PART;
            }
            Part chosen = parts[part];
            if (chosen.size == 0) {
                return refused(NO_NOTES, part);
            }
            chosen.dropLast();
            return chosen.ticks;
        }

        private int shift(int part, int by) {
            if (!has(part)) {
                return NO_SUCH_PART;
            }
            if (!isWithin(by, -MAX_PITCH, MAX_PITCH)) {
                return BAD_ARGUMENT;
            }
            Part chosen = parts[part];
            int outside = chosen.firstOutside(by);
            if (outside != NONE) {
                return refused(TOO_HIGH_OR_LOW, outside);
            }
            chosen.shiftPitches(by);
            return by == 0 ? 0 : chosen.pitchTotal();
        }

        private int tune(int part, int numerator, int denominator) {
            if (!has(part)) {
                return NO_SUCH_PART;
            }
            if (!isWithin(numerator, 1, MAX_TUNING) || !isWithin(denominator, 1, MAX_TUNING)) {
                return BAD_ARGUMENT;
            }
            parts[part].numerator = Fractions.reduced(numerator, denominator);
            parts[part].denominator = Fractions.reduced(denominator, numerator);
            return Fractions.greatestDivisor(numerator, denominator);
        }

        private int takeCue(int part, int other) {
            if (!has(part) || !has(other)) {
                return NO_SUCH_PART;
            }
            if (part == other) {
                return BAD_ARGUMENT;
            }
            if (cues.after(part) == other) {
                return refused(SAME_CUE, cues.total);
            }
            cues.put(part, other);
            return cues.total;
        }

        private int dropCue(int part) {
            if (!has(part)) {
                return NO_SUCH_PART;
            }
            if (cues.after(part) == NONE) {
                return refused(NO_CUE, cues.total);
            }
            cues.put(part, NONE);
            return cues.total;
        }

        private int changeBar(int ticks) {
            if (!isWithin(ticks, 1, MAX_BAR_TICKS)) {
                return BAD_ARGUMENT;
            }
            int previous = barTicks;
            barTicks = ticks;
            return previous;
        }

        private int changeTempo(int bar, int tempo) {
            if (!isWithin(bar, 0, MAX_BAR) || !isWithin(tempo, MIN_TEMPO, MAX_TEMPO)) {
                return BAD_ARGUMENT;
            }
            if (!tempos.hasRoomFor(bar)) {
                return refused(TEMPO_LIMIT, tempos.greatestBar());
            }
            tempos.put(bar, tempo);
            return tempos.size;
        }

        private int playNext(int bars) {
            if (!isWithin(bars, 1, MAX_BARS_AT_ONCE)) {
                return BAD_ARGUMENT;
            }
            if (longestPart() == 0) {
                return refused(SILENT, partTotal);
            }
            int ticks = bars * barTicks;
            int solos = 0;
            for (int i = 0; i < ticks; i++) {
                solos += playTick(played + i);
            }
            played += ticks;
            return solos;
        }

        private int playTick(int tick) {
            int sounding = 0;
            int latest = 0;
            for (int i = 0; i < partTotal; i++) {
                if (parts[i].pitchIn(tick) != NONE) {
                    parts[i].sounded++;
                    sounding++;
                    latest = i;
                }
            }
            if (sounding != 1) {
                return 0;
            }
            parts[latest].solos++;
            return 1;
        }

        int solosInNext(int bars) {
            int ticks = bars * barTicks;
            int solos = 0;
            for (int i = 0; i < ticks; i++) {
                if (partsSoundingIn(played + i) == 1) {
                    solos++;
                }
            }
            return solos;
        }

        int partsSoundingIn(int tick) {
            int sounding = 0;
            for (int i = 0; i < partTotal; i++) {
                if (parts[i].pitchIn(tick) != NONE) {
                    sounding++;
                }
            }
            return sounding;
        }

        long chordIn(int tick) {
            long chord = 0;
            for (int i = 0; i < partTotal; i++) {
                int pitch = parts[i].pitchIn(tick);
                if (pitch != NONE) {
                    chord |= 1L << pitch;
                }
            }
            return chord;
        }

        private int longestPart() {
            int longest = 0;
            for (int i = 0; i < partTotal; i++) {
                longest = Math.max(longest, parts[i].ticks);
            }
            return longest;
        }

        int togetherByMultiples() {
            if (longestPart() == 0) {
                return NONE;
            }
            int together = 1;
            for (int i = 0; i < partTotal; i++) {
                if (parts[i].ticks > 0) {
                    together *= Fractions.reduced(parts[i].ticks, together);
                }
                // Looked at after each part, so that the product never leaves the int.
                if (together > MAX_TICK) {
                    return NONE;
                }
            }
            return together;
        }

        int togetherBySteps() {
            int longest = longestPart();
            if (longest < 1) {
                return NONE;
            }
            for (int after = longest; after <= MAX_TICK; after += longest) {
                if (allEndAfter(after)) {
                    return after;
                }
            }
            return NONE;
        }

        private boolean allEndAfter(int after) {
            for (int i = 0; i < partTotal; i++) {
                if (!parts[i].endsAfter(after)) {
                    return false;
                }
            }
            return true;
        }

        int wholeBars(int ticks) {
            if (ticks == 0 || barTicks < 1 || ticks % barTicks != 0) {
                return NONE;
            }
            return ticks / barTicks;
        }

        int partAtPosition(int position) {
            for (int i = 0; i < partTotal; i++) {
                if (partsAheadOf(i) == position) {
                    return i;
                }
            }
            return NONE;
        }

        private int partsAheadOf(int part) {
            int ahead = 0;
            for (int i = 0; i < partTotal; i++) {
                if (i != part && comesAhead(i, part)) {
                    ahead++;
                }
            }
            return ahead;
        }

        private boolean comesAhead(int one, int other) {
            Part first = parts[one];
            Part second = parts[other];
            int tuning = first.numerator * second.denominator;
            int otherTuning = second.numerator * first.denominator;
            if (tuning != otherTuning) {
                return tuning > otherTuning;
            }
            if (first.ticks != second.ticks) {
                return first.ticks > second.ticks;
            }
            return one < other;
        }
    }

    /** What can be told of whole numbers, of fractions above 0, and of shares from 0 to 1. */
    private static final class Fractions {
        private static final int MAX_EUCLID_STEPS = 64;
        private static final int FLOAT_BIAS = 127;
        private static final int FLOAT_FRACTION_BITS = 23;

        static int greatestDivisor(int one, int other) {
            int greater = one;
            int smaller = other;
            for (int step = 0; step < MAX_EUCLID_STEPS && smaller > 0; step++) {
                int rest = greater % smaller;
                greater = smaller;
                smaller = rest;
            }
            return greater;
        }

        /** The number divided by what it shares with the other one. */
        static int reduced(int number, int other) {
            int divisor = greatestDivisor(number, other);
            return divisor < 1 ? number : number / divisor;
        }

        static int nearestByDescent(int numerator, int denominator, int limit) {
            if (denominator < 1) {
                return 1;
            }
            int lowTop = numerator / denominator;
            int lowBottom = 1;
            int highTop = lowTop + 1;
            int highBottom = 1;
            for (int step = 0; step < limit && lowBottom + highBottom <= limit; step++) {
                int top = lowTop + highTop;
                int bottom = lowBottom + highBottom;
                if (top * denominator <= numerator * bottom) {
                    lowTop = top;
                    lowBottom = bottom;
                } else {
                    highTop = top;
                    highBottom = bottom;
                }
            }
            int below = (numerator * lowBottom - lowTop * denominator) * highBottom;
            int above = (highTop * denominator - numerator * highBottom) * lowBottom;
            if (below == above) {
                return Math.min(lowBottom, highBottom);
            }
            return below < above ? lowBottom : highBottom;
        }

        static int nearestByTrial(int numerator, int denominator, int limit) {
            int best = 1;
            int bestGap = gapOver(1, numerator, denominator);
            for (int bottom = 2; bottom <= limit; bottom++) {
                int gap = gapOver(bottom, numerator, denominator);
                if (gap * best < bestGap * bottom) {
                    best = bottom;
                    bestGap = gap;
                }
            }
            return best;
        }

        private static int gapOver(int bottom, int numerator, int denominator) {
            int top = nearestOver(bottom, numerator, denominator);
            return Math.abs(numerator * bottom - top * denominator);
        }

        /** The numerator that comes nearest over a given denominator, of two the smaller one. */
        static int nearestOver(int bottom, int numerator, int denominator) {
            if (denominator < 1) {
                return 0;
            }
            int top = numerator * bottom / denominator;
            int rest = numerator * bottom % denominator;
            return 2 * rest > denominator ? top + 1 : top;
        }

        static int bitsOfShare(float share) {
            if (share <= 0) {
                return 0;
            }
            float scaled = share;
            int exponent = FLOAT_BIAS;
            // Doubling is exact, so the fraction's bits stay as they are.
            for (int step = 0; step < FLOAT_BIAS && scaled < 1; step++) {
                scaled *= 2;
                exponent--;
            }
            int hiddenBit = 1 << FLOAT_FRACTION_BITS;
            return (exponent << FLOAT_FRACTION_BITS) + (int) (scaled * hiddenBit) - hiddenBit;
        }
    }

    /** Periods and common themes, with the rows that finding them takes. */
    private static final class Patterns {
        private final int[] borders = new int[MAX_NOTES];
        private final int[][] themes = new int[MAX_NOTES + 1][MAX_NOTES + 1];

        int periodByWalk(Part part) {
            // Borders tell for each note how much of the beginning comes again up to it.
            int again = 0;
            for (int i = 1; i < part.size; i++) {
                for (int step = 0; step < i && again > 0 && !part.hasSameAt(again, part, i); step++) {
                    again = borders[again - 1];
                }
                if (part.hasSameAt(again, part, i)) {
                    again++;
                }
                borders[i] = again;
            }
            return part.size - again;
        }

        int periodByTrial(Part part) {
            for (int period = 1; period < part.size; period++) {
                if (comesAgainAfter(part, period)) {
                    return period;
                }
            }
            return part.size;
        }

        private static boolean comesAgainAfter(Part part, int period) {
            for (int i = period; i < part.size; i++) {
                if (!part.hasSameAt(i - period, part, i)) {
                    return false;
                }
            }
            return true;
        }

        int themeByTable(Part first, Part second) {
            for (int i = 1; i <= first.size; i++) {
                for (int j = 1; j <= second.size; j++) {
                    themes[i][j] = first.hasSameAt(i - 1, second, j - 1)
                        ? themes[i - 1][j - 1] + 1
                        : Math.max(themes[i - 1][j], themes[i][j - 1]);
                }
            }
            return themes[first.size][second.size];
        }

        int themeByTrial(Part first, Part second) {
            int best = 0;
            int choices = 1 << first.size;
            for (int choice = 1; choice < choices; choice++) {
                int kept = Integer.bitCount(choice);
                if (kept > best && isTheme(choice, first, second)) {
                    best = kept;
                }
            }
            return best;
        }

        private static boolean isTheme(int choice, Part first, Part second) {
            int left = choice;
            for (int i = 0; i < second.size && left != 0; i++) {
                if (first.hasSameAt(Integer.numberOfTrailingZeros(left), second, i)) {
                    left &= left - 1;
                }
            }
            return left == 0;
        }
    }

    /** The data ahead of each change that can be undone, and ahead of the one that is under way. */
    private static final class History {
        private static final int SLOTS = MAX_UNDOS + 1;

        private final Score[] slots = new Score[SLOTS];
        private int spare;
        private int count;

        History() {
            for (int i = 0; i < SLOTS; i++) {
                slots[i] = new Score();
            }
        }

        void prepare(Score score) {
            slots[spare].become(score);
        }

        void rollBack(Score score) {
            score.become(slots[spare]);
        }

        void commit() {
            spare = (spare + 1) % SLOTS;
            count = Math.min(count + 1, MAX_UNDOS);
        }

        void stepBack(Score score) {
            spare = (spare + MAX_UNDOS) % SLOTS;
            count = Math.max(count - 1, 0);
            score.become(slots[spare]);
        }

        void forget() {
            count = 0;
        }
    }

    /** The input, and the commands that were read from it last. */
    private static final class CommandReader {
        /** The shortest command and its ";" take 5 characters; one more command can begin at a full input's end. */
        private static final int MAX_COMMANDS = MAX_INPUT / 5 + 1;
        private static final int ARGUMENTS = 3;
        private static final int NUMBER_DIGITS = 3;

        // The signs in a form that stand for more than themselves.
        private static final char DIGIT = 'D';
        private static final char NUMBER = 'N';
        private static final char SIGNED_NUMBER = 'S';

        private final StringBuilder input = new StringBuilder();
        private final Action[] actions = new Action[MAX_COMMANDS];
        private final int[] arguments = new int[MAX_COMMANDS * ARGUMENTS];
        private int total;
        private int offset;
        private int argumentTotal;

        boolean isFull() {
            return input.length() >= MAX_INPUT;
        }

        int accept(char character) {
            input.append(character);
            return input.length();
        }

        void clear() {
            input.setLength(0);
        }

        int performOn(Score score, int number) {
            if (!isWithin(number, 0, total - 1)) {
                return BAD_ARGUMENT;
            }
            int at = number * ARGUMENTS;
            return score.perform(actions[number], arguments[at], arguments[at + 1], arguments[at + 2]);
        }

        /** Answers the offset of the syntax error, or NONE. */
        int readCommands() {
            offset = 0;
            total = 0;
            for (int i = 0; i < MAX_COMMANDS; i++) {
                if (!readCommand()) {
                    return offset;
                }
                if (offset == input.length()) {
                    return NONE;
                }
                if (!skip(';')) {
                    return offset;
                }
            }
            return offset;
        }

        private boolean readCommand() {
            int start = offset;
            int farthest = start;
            for (int i = 0; i < Action.ALL.length; i++) {
                offset = start;
                if (readForm(Action.ALL[i].form)) {
                    actions[total] = Action.ALL[i];
                    total++;
                    return true;
                }
                // What another form can follow longer is no error yet.
                farthest = Math.max(farthest, offset);
            }
            offset = farthest;
            return false;
        }

        private boolean readForm(String form) {
            argumentTotal = 0;
            for (int i = 0; i < form.length(); i++) {
                if (!readSign(form.charAt(i))) {
                    return false;
                }
            }
            return true;
        }

        private boolean readSign(char sign) {
            if (sign == DIGIT) {
                return readNumber(1, 1);
            }
            if (sign == NUMBER) {
                return readNumber(NUMBER_DIGITS, 1);
            }
            if (sign == SIGNED_NUMBER) {
                return readNumber(NUMBER_DIGITS, skip('-') ? -1 : 1);
            }
            return skip(sign);
        }

        private boolean skip(char sign) {
            if (offset >= input.length() || input.charAt(offset) != sign) {
                return false;
            }
            offset++;
            return true;
        }

        private boolean readNumber(int maxDigits, int factor) {
            int value = 0;
            int digits = 0;
            while (digits < maxDigits && offset < input.length() && isWithin(input.charAt(offset), '0', '9')) {
                value = value * 10 + input.charAt(offset) - '0';
                offset++;
                digits++;
            }
            int at = total * ARGUMENTS + argumentTotal;
            if (digits == 0 || at >= arguments.length) {
                return false;
            }
            arguments[at] = value * factor;
            argumentTotal++;
            return true;
        }
    }
}
