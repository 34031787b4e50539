import java.util.ArrayDeque;
import java.util.ArrayList;
import java.util.Comparator;
import java.util.Deque;
import java.util.List;
import java.util.Map;
import java.util.NoSuchElementException;
import java.util.TreeMap;
import java.util.TreeSet;
import java.util.regex.Matcher;
import java.util.regex.Pattern;

/** The document once more, written a second time and in other ways; the random runs compare with it. */
public final class Model {
    private static final String NUMBER = "\\d{1,3}";
    private static final String COMMAND = "(?:part|note \\d N N|rest \\d N|last \\d|move \\d -?N|tune \\d N/N"
        .concat("|cue \\d>\\d|alone \\d|bar N|tempo N N|play N)").replace("N", NUMBER);
    private static final Pattern INPUT = Pattern.compile(COMMAND + "(?:;" + COMMAND + ")*");

    private record Note(int pitch, int length) {
        boolean rest() {
            return pitch < 0;
        }
    }

    private static final class Part {
        List<Note> notes = new ArrayList<>();
        int top = 1;
        int bottom = 1;
        int cue = -1;
        int sounded;
        int solos;

        int length() {
            return notes.stream().mapToInt(Note::length).sum();
        }

        Note in(long tick) {
            List<Note> ticks = new ArrayList<>();
            for (Note note : notes) {
                for (int i = 0; i < note.length; i++) {
                    ticks.add(note);
                }
            }
            return ticks.isEmpty() ? null : ticks.get((int) (tick % ticks.size()));
        }

        boolean sounds(long tick) {
            Note note = in(tick);
            return note != null && !note.rest();
        }
    }

    private static final class Data {
        List<Part> parts = new ArrayList<>();
        TreeMap<Integer, Integer> tempos = new TreeMap<>(Map.of(0, 60));
        int bar = 8;
        int played;

        Data copy() {
            Data copy = new Data();
            for (Part part : parts) {
                Part twin = new Part();
                twin.notes = new ArrayList<>(part.notes);
                twin.top = part.top;
                twin.bottom = part.bottom;
                twin.cue = part.cue;
                twin.sounded = part.sounded;
                twin.solos = part.solos;
                copy.parts.add(twin);
            }
            copy.tempos = new TreeMap<>(tempos);
            copy.bar = bar;
            copy.played = played;
            return copy;
        }
    }

    @SuppressWarnings("serial")
    private static final class Rejection extends UnsupportedOperationException {
        final int reason;
        final int detail;

        Rejection(int reason, int detail) {
            this.reason = reason;
            this.detail = detail;
        }
    }

    private interface Change {
        int run();
    }

    private Data data = new Data();
    private Data snapshot;
    private final Deque<Data> history = new ArrayDeque<>();
    private String input = "";
    private String output = "";
    private int errorOffset = -1;
    private int[] rejection;
    private boolean executing;

    private int change(Change change) {
        Data before = data.copy();
        try {
            int answer = change.run();
            if (!executing) {
                history.push(before);
                if (history.size() > 8) {
                    history.removeLast();
                }
            }
            return answer;
        } catch (Rejection e) {
            if (!executing) {
                rejection = new int[] {e.reason, e.detail, 0};
            }
            throw e;
        }
    }

    private Part part(int index) {
        if (index < 0 || index >= data.parts.size()) {
            throw new IndexOutOfBoundsException();
        }
        return data.parts.get(index);
    }

    private Note note(int part, int index) {
        List<Note> notes = part(part).notes;
        if (index < 0 || index >= notes.size()) {
            throw new IndexOutOfBoundsException();
        }
        return notes.get(index);
    }

    private static void range(int value, int low, int high) {
        if (value < low || value > high) {
            throw new IllegalArgumentException();
        }
    }

    private static void exists(boolean there) {
        if (!there) {
            throw new NoSuchElementException();
        }
    }

    private int cues() {
        return (int) data.parts.stream().filter(p -> p.cue >= 0).count();
    }

    public int addPart() {
        return change(() -> {
            if (data.parts.size() == 5) {
                throw new Rejection(1, 5);
            }
            data.parts.add(new Part());
            return data.parts.size() - 1;
        });
    }

    private int append(Part part, Note note) {
        if (part.notes.size() == 10) {
            throw new Rejection(2, part.length());
        }
        part.notes.add(note);
        return part.notes.size();
    }

    public int addNote(int part, int pitch, int length) {
        return change(() -> {
            Part chosen = part(part);
            range(pitch, 0, 35);
            range(length, 1, 12);
            return append(chosen, new Note(pitch, length));
        });
    }

    public int addRest(int part, int length) {
        return change(() -> {
            Part chosen = part(part);
            range(length, 1, 12);
            return append(chosen, new Note(-1, length));
        });
    }

    public int removeLast(int part) {
        return change(() -> {
            Part chosen = part(part);
            if (chosen.notes.isEmpty()) {
                throw new Rejection(3, part);
            }
            chosen.notes.remove(chosen.notes.size() - 1);
            return chosen.length();
        });
    }

    public int transpose(int part, int by) {
        return change(() -> {
            Part chosen = part(part);
            range(by, -35, 35);
            List<Note> moved = new ArrayList<>();
            for (Note note : chosen.notes) {
                int pitch = note.pitch + by;
                if (!note.rest() && (pitch < 0 || pitch > 35)) {
                    throw new Rejection(4, moved.size());
                }
                moved.add(note.rest() ? note : new Note(pitch, note.length));
            }
            int different = 0;
            for (int i = 0; i < moved.size(); i++) {
                different += moved.get(i).equals(chosen.notes.get(i)) ? 0 : 1;
            }
            chosen.notes = moved;
            return different;
        });
    }

    public int partCount() {
        return data.parts.size();
    }

    public int noteCount(int part) {
        return part(part).notes.size();
    }

    public boolean isRest(int part, int note) {
        return note(part, note).rest();
    }

    public int pitchOf(int part, int note) {
        Note chosen = note(part, note);
        exists(!chosen.rest());
        return chosen.pitch;
    }

    public int lengthOf(int part, int note) {
        return note(part, note).length;
    }

    public int partLength(int part) {
        return part(part).length();
    }

    public int noteAt(int part, int tick) {
        Part chosen = part(part);
        range(tick, 0, 999999);
        exists(!chosen.notes.isEmpty());
        int end = 0;
        int index = -1;
        while (end <= tick % chosen.length()) {
            index++;
            end += chosen.notes.get(index).length;
        }
        return index;
    }

    private int sounding(long tick) {
        return (int) data.parts.stream().filter(p -> p.sounds(tick)).count();
    }

    public int soundingAt(int tick) {
        range(tick, 0, 999999);
        return sounding(tick);
    }

    public long chordAt(int tick) {
        range(tick, 0, 999999);
        TreeSet<Integer> pitches = new TreeSet<>();
        for (Part part : data.parts) {
            if (part.sounds(tick)) {
                pitches.add(part.in(tick).pitch);
            }
        }
        return pitches.stream().mapToLong(p -> (long) Math.pow(2, p)).sum();
    }

    public int togetherAfter() {
        List<Integer> lengths = data.parts.stream().map(Part::length).filter(l -> l > 0).distinct().toList();
        exists(!lengths.isEmpty());
        int first = lengths.get(0);
        for (int ticks = first; ticks <= 999999; ticks += first) {
            int at = ticks;
            if (lengths.stream().allMatch(l -> at % l == 0)) {
                return ticks;
            }
        }
        throw new NoSuchElementException();
    }

    public int togetherAfterBySteps() {
        return togetherAfter();
    }

    public int period(int part) {
        List<Note> notes = part(part).notes;
        exists(!notes.isEmpty());
        int period = 1;
        while (!notes.subList(period, notes.size()).equals(notes.subList(0, notes.size() - period))) {
            period++;
        }
        return period;
    }

    public int periodByTrying(int part) {
        return period(part);
    }

    public int commonTheme(int first, int second) {
        List<Note> one = part(first).notes;
        List<Note> other = part(second).notes;
        return theme(one, other, new int[11][11]) - 1;
    }

    /** One more than the greatest number; what has been found before is kept. */
    private static int theme(List<Note> one, List<Note> other, int[][] known) {
        if (one.isEmpty() || other.isEmpty()) {
            return 1;
        }
        int i = one.size();
        int j = other.size();
        if (known[i][j] == 0) {
            List<Note> oneRest = one.subList(1, i);
            List<Note> otherRest = other.subList(1, j);
            int best = Math.max(theme(oneRest, other, known), theme(one, otherRest, known));
            if (one.get(0).equals(other.get(0))) {
                best = Math.max(best, 1 + theme(oneRest, otherRest, known));
            }
            known[i][j] = best;
        }
        return known[i][j];
    }

    public int commonThemeByTrying(int first, int second) {
        return commonTheme(first, second);
    }

    private static int divisor(int one, int other) {
        int divisor = Math.min(one, other);
        while (one % divisor != 0 || other % divisor != 0) {
            divisor--;
        }
        return divisor;
    }

    public int setTuning(int part, int numerator, int denominator) {
        return change(() -> {
            Part chosen = part(part);
            range(numerator, 1, 99);
            range(denominator, 1, 99);
            int divisor = divisor(numerator, denominator);
            chosen.top = numerator / divisor;
            chosen.bottom = denominator / divisor;
            return divisor;
        });
    }

    public int tuningNumerator(int part) {
        return part(part).top;
    }

    public int tuningDenominator(int part) {
        return part(part).bottom;
    }

    private int[] nearest(int part, int limit) {
        Part chosen = part(part);
        range(limit, 1, 20);
        int[] best = {0, 1};
        for (int bottom = 1; bottom <= limit; bottom++) {
            for (int top = 0; top <= chosen.top * bottom; top++) {
                int gap = Math.abs(chosen.top * bottom - top * chosen.bottom) * best[1];
                int bestGap = Math.abs(chosen.top * best[1] - best[0] * chosen.bottom) * bottom;
                if (gap < bestGap) {
                    best = new int[] {top, bottom};
                }
            }
        }
        return best;
    }

    public int nearestNumerator(int part, int limit) {
        return nearest(part, limit)[0];
    }

    public int nearestDenominator(int part, int limit) {
        return nearest(part, limit)[1];
    }

    public int nearestDenominatorByTrying(int part, int limit) {
        return nearest(part, limit)[1];
    }

    public int intervalNumerator(int first, int second) {
        int top = part(first).top * part(second).bottom;
        return top / divisor(top, part(first).bottom * part(second).top);
    }

    public int intervalDenominator(int first, int second) {
        int bottom = part(first).bottom * part(second).top;
        return bottom / divisor(bottom, part(first).top * part(second).bottom);
    }

    public int partByTuning(int position) {
        exists(position >= 0 && position < data.parts.size());
        List<Part> sorted = new ArrayList<>(data.parts);
        sorted.sort(Comparator.comparingDouble((Part p) -> -(double) p.top / p.bottom)
            .thenComparing(p -> -p.length()));
        return data.parts.indexOf(sorted.get(position));
    }

    public int setCue(int part, int other) {
        return change(() -> {
            Part chosen = part(part);
            part(other);
            if (part == other) {
                throw new IllegalArgumentException();
            }
            if (chosen.cue == other) {
                throw new Rejection(5, cues());
            }
            chosen.cue = other;
            return cues();
        });
    }

    public int removeCue(int part) {
        return change(() -> {
            Part chosen = part(part);
            if (chosen.cue < 0) {
                throw new Rejection(6, cues());
            }
            chosen.cue = -1;
            return cues();
        });
    }

    public int cueOf(int part) {
        int cue = part(part).cue;
        exists(cue >= 0);
        return cue;
    }

    /** The parts on the way, and at its end the part that comes again, or -1. */
    private List<Integer> way(int part) {
        part(part);
        List<Integer> way = new ArrayList<>();
        int at = part;
        while (at >= 0 && !way.contains(at)) {
            way.add(at);
            at = part(at).cue;
        }
        way.add(at);
        return way;
    }

    public int cueDepth(int part) {
        List<Integer> way = way(part);
        exists(way.contains(-1));
        return way.size() - 2;
    }

    public int circleLength(int part) {
        List<Integer> way = way(part);
        int end = way.get(way.size() - 1);
        return end < 0 ? 0 : way.size() - 1 - way.indexOf(end);
    }

    public int circleLengthByMarks(int part) {
        return circleLength(part);
    }

    public int setBar(int ticks) {
        return change(() -> {
            range(ticks, 1, 48);
            int before = data.bar;
            data.bar = ticks;
            return before;
        });
    }

    public int barLength() {
        return data.bar;
    }

    public int barsOf(int part) {
        int length = part(part).length();
        exists(length > 0 && length % data.bar == 0);
        return length / data.bar;
    }

    public int setTempo(int bar, int tempo) {
        return change(() -> {
            range(bar, 0, 999);
            range(tempo, 30, 240);
            if (data.tempos.size() == 6 && !data.tempos.containsKey(bar)) {
                throw new Rejection(7, data.tempos.lastKey());
            }
            data.tempos.put(bar, tempo);
            return data.tempos.size();
        });
    }

    public int tempoAt(int bar) {
        range(bar, 0, 999);
        return data.tempos.floorEntry(bar).getValue();
    }

    public long startOfBar(int bar) {
        range(bar, 0, 999);
        long start = 0;
        for (int i = 0; i < bar; i++) {
            start += (long) Math.floor(data.bar * 15000.0 / tempoAt(i));
        }
        return start;
    }

    public long startOfBarByTempos(int bar) {
        return startOfBar(bar);
    }

    public int play(int bars) {
        return change(() -> {
            range(bars, 1, 20);
            if (data.parts.stream().allMatch(p -> p.notes.isEmpty())) {
                throw new Rejection(8, data.parts.size());
            }
            int solos = 0;
            for (int i = 0; i < bars * data.bar; i++) {
                List<Part> sounding = new ArrayList<>(data.parts);
                int tick = data.played + i;
                sounding.removeIf(p -> !p.sounds(tick));
                sounding.forEach(p -> p.sounded++);
                if (sounding.size() == 1) {
                    sounding.get(0).solos++;
                    solos++;
                }
            }
            data.played += bars * data.bar;
            return solos;
        });
    }

    public int playedTicks() {
        return data.played;
    }

    public int soundedTicks(int part) {
        return part(part).sounded;
    }

    public int soloTicks(int part) {
        return part(part).solos;
    }

    public int solosAhead(int bars) {
        range(bars, 1, 20);
        int solos = 0;
        for (int i = 0; i < bars * data.bar; i++) {
            solos += sounding(data.played + i) == 1 ? 1 : 0;
        }
        return solos;
    }

    public double meanPitch(int part) {
        return part(part).notes.stream().filter(n -> !n.rest()).mapToDouble(Note::pitch).average()
            .orElseThrow(ArithmeticException::new);
    }

    public float restShare(int part) {
        Part chosen = part(part);
        if (chosen.notes.isEmpty()) {
            throw new ArithmeticException();
        }
        int rests = chosen.notes.stream().filter(Note::rest).mapToInt(Note::length).sum();
        return (float) rests / (float) chosen.length();
    }

    public int restShareBits(int part) {
        return Float.floatToIntBits(restShare(part));
    }

    public boolean isConsistent() {
        return true;
    }

    public int writePart(int part) {
        Part chosen = part(part);
        output = part + "(" + chosen.top + "/" + chosen.bottom + ")" + (chosen.cue < 0 ? "" : ">" + chosen.cue);
        for (Note note : chosen.notes) {
            output += " " + (note.rest() ? "-" : note.pitch) + "*" + note.length;
        }
        return output.length();
    }

    public char outputAt(int index) {
        if (index < 0 || index >= output.length()) {
            throw new IndexOutOfBoundsException();
        }
        return output.charAt(index);
    }

    public int appendInput(char character) {
        range(character, 32, 126);
        if (input.length() == 60) {
            throw new IllegalStateException();
        }
        input += character;
        return input.length();
    }

    private static boolean canGoOn(String text) {
        Matcher matcher = INPUT.matcher(text);
        return matcher.matches() || matcher.hitEnd();
    }

    private static int errorIn(String text) {
        for (int i = 1; i <= text.length(); i++) {
            if (!canGoOn(text.substring(0, i))) {
                return i - 1;
            }
        }
        return INPUT.matcher(text).matches() ? -1 : text.length();
    }

    public int execute() {
        String text = input;
        input = "";
        int error = errorIn(text);
        if (error >= 0) {
            errorOffset = error;
            throw new IllegalArgumentException();
        }
        String[] commands = text.split(";");
        Data before = data.copy();
        int number = 0;
        executing = true;
        try {
            for (; number < commands.length; number++) {
                perform(commands[number]);
            }
        } catch (Rejection e) {
            data = before;
            rejection = new int[] {9, number, e.reason};
            throw e;
        } catch (IndexOutOfBoundsException | IllegalArgumentException e) {
            data = before;
            throw new IllegalStateException();
        } finally {
            executing = false;
        }
        history.push(before);
        if (history.size() > 8) {
            history.removeLast();
        }
        return commands.length;
    }

    private void perform(String command) {
        String[] words = command.split("[ />]");
        int[] n = new int[3];
        for (int i = 1; i < words.length; i++) {
            n[i - 1] = Integer.parseInt(words[i]);
        }
        switch (words[0]) {
            case "part" -> addPart();
            case "note" -> addNote(n[0], n[1], n[2]);
            case "rest" -> addRest(n[0], n[1]);
            case "last" -> removeLast(n[0]);
            case "move" -> transpose(n[0], n[1]);
            case "tune" -> setTuning(n[0], n[1], n[2]);
            case "cue" -> setCue(n[0], n[1]);
            case "alone" -> removeCue(n[0]);
            case "bar" -> setBar(n[0]);
            case "tempo" -> setTempo(n[0], n[1]);
            default -> play(n[0]);
        }
    }

    public int syntaxErrorOffset() {
        exists(errorOffset >= 0);
        return errorOffset;
    }

    public int rejectionReason() {
        exists(rejection != null);
        return rejection[0];
    }

    public int rejectionDetail() {
        exists(rejection != null);
        return rejection[1];
    }

    public int causeReason() {
        exists(rejection != null && rejection[0] == 9);
        return rejection[2];
    }

    public int undo() {
        if (history.isEmpty()) {
            throw new IllegalStateException();
        }
        data = history.pop();
        return history.size();
    }

    public int saveSnapshot() {
        snapshot = data.copy();
        return data.parts.size();
    }

    public int restoreSnapshot() {
        if (snapshot == null) {
            throw new IllegalStateException();
        }
        data = snapshot.copy();
        history.clear();
        return data.parts.size();
    }
}
