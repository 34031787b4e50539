import java.util.function.Supplier;

/** Objects to call, from a new one to a full one, and all that their calls tell of them. */
final class States {
    /** What calls can tell; from COUNTS on they change the object at which they look. */
    enum Look { DATA, OUTPUT, REJECTION, ERROR, COUNTS, INPUT, UNDO, SNAPSHOT }

    private static final int[] BARS = {0, 1, 2, 3, 4, 5, 6, 7, 8, 998, 999};

    /** Five parts that differ; the first one has a single tick and no cue. */
    static CutleryOrchestra five() {
        CutleryOrchestra x = Check.withParts(5);
        Check.add(x, 0, "0*1");
        Check.add(x, 1, "7*2 -*2");
        Check.add(x, 2, "9*3 9*3 -*3");
        Check.add(x, 3, "-*4 20*1 -*4 20*1");
        Check.add(x, 4, "35*12 -*5 35*12 -*5 35*12");
        x.setTuning(1, 3, 2);
        x.setTuning(2, 4, 6);
        x.setTuning(3, 98, 99);
        x.setTuning(4, 99, 98);
        x.setCue(1, 0);
        x.setCue(2, 1);
        x.setCue(3, 4);
        x.setCue(4, 3);
        return x;
    }

    /** Three parts in the midst of everything: of all that an object keeps, there is something. */
    static CutleryOrchestra busy() {
        CutleryOrchestra x = Check.withParts(3);
        Check.add(x, 0, "5*3 -*2 6*1");
        Check.add(x, 1, "0*4 35*1");
        x.setTuning(0, 9, 6);
        x.setCue(0, 2);
        x.setTempo(4, 80);
        x.saveSnapshot();
        x.setCue(2, 1);
        x.setBar(5);
        x.play(2);
        Check.type(x, "alone 1;bar 9");
        Check.answer(x::execute);
        Check.type(x, "part;bar");
        Check.answer(x::execute);
        x.writePart(0);
        Check.type(x, "bar 4");
        return x;
    }

    /** The same with an empty input, and with one more change. */
    static CutleryOrchestra ready() {
        CutleryOrchestra x = busy();
        x.execute();
        return x;
    }

    /** As full as can be: parts, notes, tempos, cues, changes that can be undone. */
    static CutleryOrchestra crowded() {
        CutleryOrchestra x = Check.withParts(5);
        for (int part = 0; part < 5; part++) {
            for (int note = 0; note < 10; note++) {
                x.addNote(part, 35, 12);
            }
        }
        for (int bar = 1; bar <= 5; bar++) {
            x.setTempo(bar, 240);
        }
        x.setTuning(4, 97, 98);
        for (int part = 0; part < 5; part++) {
            x.setCue(part, (part + 1) % 5);
        }
        x.setBar(48);
        x.play(20);
        return x;
    }

    /** The same with a snapshot, and with a full output and a full input. */
    static CutleryOrchestra full() {
        CutleryOrchestra x = crowded();
        x.saveSnapshot();
        x.writePart(4);
        Check.type(x, "bar 7;play 20;tempo 0 100;move 4 -35;last 4;note 4 1 1;bar 9");
        return x;
    }

    /** What the call answers, or the name of what it throws. */
    private static String brief(Check.Call call) {
        Object answer = Check.answer(call);
        return answer instanceof Class<?> type ? type.getSimpleName() : answer.toString();
    }

    static String told(CutleryOrchestra x) {
        StringBuilder text = new StringBuilder();
        for (int part = 0; part < x.partCount(); part++) {
            text.append(toldOf(x, part)).append("; ");
        }
        for (int bar : BARS) {
            text.append(x.tempoAt(bar)).append(' ');
        }
        return text.append(x.barLength()).append(' ').append(x.playedTicks()).append(' ')
            .append(x.startOfBar(999)).append(' ').append(brief(x::togetherAfter)).toString();
    }

    private static String toldOf(CutleryOrchestra x, int part) {
        StringBuilder text = new StringBuilder();
        for (int note = 0; note < x.noteCount(part); note++) {
            text.append(brief(pitch(x, part, note))).append('*').append(x.lengthOf(part, note)).append(' ');
        }
        return text.append(x.partLength(part)).append(' ').append(x.tuningNumerator(part)).append('/')
            .append(x.tuningDenominator(part)).append('>').append(brief(() -> x.cueOf(part))).append(' ')
            .append(x.soundedTicks(part)).append(' ').append(x.soloTicks(part)).toString();
    }

    private static Check.Call pitch(CutleryOrchestra x, int part, int note) {
        return () -> x.isRest(part, note) ? "-" : x.pitchOf(part, note);
    }

    static String output(CutleryOrchestra x) {
        StringBuilder text = new StringBuilder();
        int index = 0;
        while (Check.answer(charAt(x, index)) instanceof Character c) {
            text.append((char) c);
            index++;
        }
        return text.toString();
    }

    private static Check.Call charAt(CutleryOrchestra x, int index) {
        return () -> x.outputAt(index);
    }

    static String rejection(CutleryOrchestra x) {
        return brief(x::rejectionReason) + " " + brief(x::rejectionDetail) + " " + brief(x::causeReason);
    }

    /** The look changes objects, so it takes new ones from the maker. */
    static String looked(Look look, Supplier<CutleryOrchestra> maker) {
        CutleryOrchestra x = maker.get();
        switch (look) {
            case DATA:
                return told(x);
            case OUTPUT:
                return output(x);
            case REJECTION:
                return rejection(x);
            case ERROR:
                return brief(x::syntaxErrorOffset);
            case COUNTS:
                return counts(x);
            case INPUT:
                return brief(() -> x.appendInput('8')) + " " + brief(x::execute) + " " + told(x);
            case SNAPSHOT:
                return brief(x::restoreSnapshot) + " " + told(x) + " " + brief(x::undo) + " " + counts(x);
            default:
                return undone(maker);
        }
    }

    /** How many parts have a cue, and for how many bars a tempo is set. */
    static String counts(CutleryOrchestra x) {
        return brief(() -> x.removeCue(0)) + " " + brief(() -> x.setCue(0, 1)) + " " + brief(() -> x.setTempo(0, 77));
    }

    private static String undone(Supplier<CutleryOrchestra> maker) {
        StringBuilder text = new StringBuilder();
        for (int times = 1; times <= 9; times++) {
            CutleryOrchestra x = maker.get();
            for (int i = 0; i < times; i++) {
                text.append(brief(x::undo)).append(' ');
            }
            text.append(told(x)).append(' ').append(counts(x)).append("; ");
        }
        return text.toString();
    }
}
