/**
 * "Methods throw what their comments name, the one named first when several would do; a call that throws,
 * or answers NONE, changes nothing": for each call that can, by itself.
 */
public final class RefusalEdgesTest {
    private static final long LONG = 0xF8F7F6F5F4F3F2F1L;

    // The sponges of a prepared desk, by what they are good for.
    private static final int KEYED_OPEN = 0;
    private static final int TUPLE_OPEN = 1;
    private static final int FOUR_LEFT = 2;
    private static final int ENDLESS = 3;
    private static final int TAPE = 298;

    /** A call without an answer that is asked for. */
    private interface Call {
        void on(SpongeDesk desk);
    }

    public static void main(String[] args) {
        firstNamed();
        nothingChangesComingIn();
        nothingChangesComingOut();
        nothingChangesByAnswers();
        Check.close();
    }

    private static void firstNamed() {
        Check.edge("First named: begin, no sponge and no kind", RefusalEdgesTest::beginBoth);
        Check.edge("First named: bytes, no sponge and no size", RefusalEdgesTest::bytesSpongeAndSize);
        Check.edge("First named: bytes, no size and ended", RefusalEdgesTest::bytesSizeAndEnded);
        Check.edge("First named: bytes, no size and kinds 12 to 15", RefusalEdgesTest::bytesSizeAndKind);
        Check.edge("First named: end, no sponge and no length", RefusalEdgesTest::endSpongeAndLength);
        Check.edge("First named: end, no length and ended", RefusalEdgesTest::endLengthAndEnded);
        Check.edge("First named: squeeze, no sponge and no size", RefusalEdgesTest::squeezeSpongeAndSize);
        Check.edge("First named: squeeze, no size and not ended", RefusalEdgesTest::squeezeSizeAndNotEnded);
        Check.edge("First named: squeeze, no size and none left", RefusalEdgesTest::squeezeSizeAndNoneLeft);
        Check.edge("First named: same, no sponge and no size", RefusalEdgesTest::sameSpongeAndSize);
        Check.edge("First named: same, no sponge and not ended", RefusalEdgesTest::sameSpongeAndNotEnded);
        Check.edge("First named: same, no size and not ended", RefusalEdgesTest::sameSizeAndNotEnded);
        Check.edge("First named: same, no size and too few left", RefusalEdgesTest::sameSizeAndTooFew);
    }

    private static void nothingChangesComingIn() {
        unchanged("feed, no size", Edges.ARGUMENT, desk -> desk.feed(0, LONG));
        unchanged("feed, a greater size", Edges.ARGUMENT, desk -> desk.feed(9, LONG));
        unchanged("let, another which", Edges.ARGUMENT, desk -> desk.let(3));
        unchanged("let, a negative which", Edges.ARGUMENT, desk -> desk.let(-1));
        unchanged("begin, no sponge", Edges.INDEX, desk -> desk.begin(4, 0));
        unchanged("begin, no kind, a sponge coming in", Edges.ARGUMENT, desk -> desk.begin(KEYED_OPEN, 16));
        unchanged("begin, no kind, a sponge coming out", Edges.ARGUMENT, desk -> desk.begin(FOUR_LEFT, -1));
        unchanged("absorb, no sponge", Edges.INDEX, desk -> desk.absorb(-1));
        unchanged("absorb, ended", Edges.STATE, desk -> desk.absorb(FOUR_LEFT));
        unchanged("absorb, ended and endless", Edges.STATE, desk -> desk.absorb(ENDLESS));
        unchanged("bytes, no sponge", Edges.INDEX, desk -> desk.bytes(4, 1, LONG));
        unchanged("bytes, no size", Edges.ARGUMENT, desk -> desk.bytes(KEYED_OPEN, 0, LONG));
        unchanged("bytes, a greater size", Edges.ARGUMENT, desk -> desk.bytes(KEYED_OPEN, 9, LONG));
        unchanged("bytes, ended", Edges.STATE, desk -> desk.bytes(ENDLESS, 8, LONG));
        unchanged("bytes, kinds 12 to 15", Edges.STATE, desk -> desk.bytes(TUPLE_OPEN, 8, LONG));
        unchanged("end, no sponge", Edges.INDEX, desk -> desk.end(4, 28));
        unchanged("end, no length of a chosen one", Edges.ARGUMENT, desk -> desk.end(KEYED_OPEN, 0));
        unchanged("end, a greater length than a chosen one", Edges.ARGUMENT, desk -> desk.end(KEYED_OPEN, 1001));
        unchanged("end, a length of an endless one", Edges.ARGUMENT, desk -> desk.end(TUPLE_OPEN, 32));
        unchanged("end, no length, and ended", Edges.ARGUMENT, desk -> desk.end(FOUR_LEFT, 63));
        unchanged("end, ended", Edges.STATE, desk -> desk.end(FOUR_LEFT, 64));
        unchanged("end, ended and endless", Edges.STATE, desk -> desk.end(ENDLESS, 0));
    }

    private static void nothingChangesComingOut() {
        unchanged("squeeze, no sponge", Edges.INDEX, desk -> desk.squeeze(4, 1));
        unchanged("squeeze, no size", Edges.ARGUMENT, desk -> desk.squeeze(ENDLESS, 0));
        unchanged("squeeze, a greater size", Edges.ARGUMENT, desk -> desk.squeeze(ENDLESS, 9));
        unchanged("squeeze, not ended", Edges.STATE, desk -> desk.squeeze(KEYED_OPEN, 1));
        unchanged("squeeze, not ended, endless", Edges.STATE, desk -> desk.squeeze(TUPLE_OPEN, 8));
        unchanged("squeeze, less than n left", Edges.STATE, desk -> desk.squeeze(FOUR_LEFT, 5));
        unchanged("left, no sponge", Edges.INDEX, desk -> desk.left(4));
        unchanged("copy, no sponge k", Edges.INDEX, desk -> desk.copy(4, FOUR_LEFT));
        unchanged("copy, no sponge i", Edges.INDEX, desk -> desk.copy(KEYED_OPEN, 4));
        unchanged("copy, no sponge i, over an ended one", Edges.INDEX, desk -> desk.copy(ENDLESS, -1));
        unchanged("kind, no sponge", Edges.INDEX, desk -> desk.kind(-1));
        unchanged("same, no sponge k", Edges.INDEX, desk -> desk.same(4, ENDLESS, 1));
        unchanged("same, no sponge i", Edges.INDEX, desk -> desk.same(ENDLESS, -1, 1));
        unchanged("same, no size", Edges.ARGUMENT, desk -> desk.same(ENDLESS, FOUR_LEFT, 0));
        unchanged("same, a greater size", Edges.ARGUMENT, desk -> desk.same(ENDLESS, ENDLESS, 65));
        unchanged("same, k not ended", Edges.STATE, desk -> desk.same(KEYED_OPEN, ENDLESS, 4));
        unchanged("same, i not ended", Edges.STATE, desk -> desk.same(ENDLESS, TUPLE_OPEN, 4));
        unchanged("same, k has less than n left", Edges.STATE, desk -> desk.same(FOUR_LEFT, ENDLESS, 5));
        unchanged("same, i has less than n left", Edges.STATE, desk -> desk.same(ENDLESS, FOUR_LEFT, 5));
    }

    private static void nothingChangesByAnswers() {
        Check.edge("Answers NONE, changes nothing: feed", () -> {
            for (int n = 3; n <= 8; n++) {
                int size = n;
                unchangedBy("feed(" + n + ") answers NONE", desk -> Check.same("feed", desk.feed(size, LONG), -1));
            }
        });
        Check.edge("Answers NONE, changes nothing: left, not ended", () -> unchangedBy("left answers NONE",
            desk -> Check.same("left", desk.left(KEYED_OPEN), -1)));
        Check.edge("Answers NONE, changes nothing: left, endless", () -> unchangedBy("left answers NONE",
            desk -> Check.same("left", desk.left(ENDLESS), -1)));
        Check.edge("Nothing comes out: left, with an end", () -> unchangedBy("left answers 4",
            desk -> Check.same("left", desk.left(FOUR_LEFT), 4)));
        Check.edge("Nothing comes out: kind", () -> unchangedBy("kind answers",
            desk -> Check.same("kind", desk.kind(FOUR_LEFT), 19)));
        Check.edge("Nothing comes out: same", () -> unchangedBy("same answers",
            desk -> Check.no("same", desk.same(FOUR_LEFT, ENDLESS, 4))));
        Check.edge("Nothing changes: copy of a sponge to itself", () -> unchangedBy("copy to itself", desk -> {
            for (int k = 0; k < 4; k++) {
                desk.copy(k, k);
            }
        }));
    }

    private static void beginBoth() {
        for (int k : Edges.NO_SPONGE) {
            for (int kind : Edges.NO_KIND) {
                refused("begin", Edges.INDEX, desk -> desk.begin(k, kind));
            }
        }
    }

    private static void bytesSpongeAndSize() {
        for (int k : Edges.NO_SPONGE) {
            for (int n : Edges.NO_SIZE) {
                refused("bytes", Edges.INDEX, desk -> desk.bytes(k, n, LONG));
            }
        }
    }

    private static void bytesSizeAndEnded() {
        for (int n : Edges.NO_SIZE) {
            for (int kind = 0; kind < 16; kind++) {
                SpongeDesk desk = Edges.deskEnded(kind);
                Check.refused("bytes(0, " + n + "), kind " + kind, Edges.ARGUMENT, () -> desk.bytes(0, n, LONG));
            }
        }
    }

    private static void bytesSizeAndKind() {
        for (int n : Edges.NO_SIZE) {
            for (int kind = 12; kind < 16; kind++) {
                SpongeDesk desk = Edges.deskWith(kind);
                Check.refused("bytes(0, " + n + "), kind " + kind, Edges.ARGUMENT, () -> desk.bytes(0, n, LONG));
            }
        }
    }

    private static void endSpongeAndLength() {
        for (int k : Edges.NO_SPONGE) {
            for (int length : new int[] {-1, 1001, Integer.MIN_VALUE, Integer.MAX_VALUE}) {
                refused("end", Edges.INDEX, desk -> desk.end(k, length));
            }
        }
    }

    private static void endLengthAndEnded() {
        for (int kind = 0; kind < 16; kind++) {
            SpongeDesk desk = Edges.deskEnded(kind);
            for (int length : new int[] {-1, 1001, Edges.LENGTHS[kind] == 0 ? 1 : 0}) {
                Check.refused("end(0, " + length + "), kind " + kind, Edges.ARGUMENT,
                    Check.done(() -> desk.end(0, length)));
            }
        }
    }

    private static void squeezeSpongeAndSize() {
        for (int k : Edges.NO_SPONGE) {
            for (int n : Edges.NO_SIZE) {
                refused("squeeze", Edges.INDEX, desk -> desk.squeeze(k, n));
            }
        }
    }

    private static void squeezeSizeAndNotEnded() {
        for (int kind = 0; kind < 16; kind++) {
            SpongeDesk desk = Edges.deskWith(kind);
            for (int n : Edges.NO_SIZE) {
                Check.refused("squeeze(0, " + n + "), kind " + kind, Edges.ARGUMENT, () -> desk.squeeze(0, n));
            }
        }
    }

    private static void squeezeSizeAndNoneLeft() {
        SpongeDesk desk = Edges.deskEnded(8, 1);
        desk.squeeze(0, 1);
        for (int n : Edges.NO_SIZE) {
            Check.refused("squeeze(0, " + n + ")", Edges.ARGUMENT, () -> desk.squeeze(0, n));
        }
    }

    private static void sameSpongeAndSize() {
        for (int k : Edges.NO_SPONGE) {
            for (int n : new int[] {0, 65, -1}) {
                refused("same", Edges.INDEX, desk -> desk.same(k, ENDLESS, n));
                refused("same", Edges.INDEX, desk -> desk.same(ENDLESS, k, n));
            }
        }
    }

    private static void sameSpongeAndNotEnded() {
        for (int k : Edges.NO_SPONGE) {
            refused("same", Edges.INDEX, desk -> desk.same(k, KEYED_OPEN, 1));
            refused("same", Edges.INDEX, desk -> desk.same(KEYED_OPEN, k, 1));
            refused("same", Edges.INDEX, desk -> desk.same(FOUR_LEFT, k, 5));
            refused("same", Edges.INDEX, desk -> desk.same(KEYED_OPEN, k, 65));
        }
    }

    private static void sameSizeAndNotEnded() {
        for (int n : new int[] {0, 65, -1, Integer.MIN_VALUE, Integer.MAX_VALUE}) {
            refused("same", Edges.ARGUMENT, desk -> desk.same(KEYED_OPEN, ENDLESS, n));
            refused("same", Edges.ARGUMENT, desk -> desk.same(ENDLESS, KEYED_OPEN, n));
            refused("same", Edges.ARGUMENT, desk -> desk.same(TUPLE_OPEN, TUPLE_OPEN, n));
        }
    }

    private static void sameSizeAndTooFew() {
        for (int n : new int[] {0, 65, -1, Integer.MIN_VALUE, Integer.MAX_VALUE}) {
            refused("same", Edges.ARGUMENT, desk -> desk.same(FOUR_LEFT, ENDLESS, n));
            refused("same", Edges.ARGUMENT, desk -> desk.same(ENDLESS, FOUR_LEFT, n));
        }
    }

    private static void refused(String what, Class<?> due, Call call) {
        SpongeDesk desk = prepared();
        Check.refused(what, due, Check.done(() -> call.on(desk)));
    }

    private static void unchanged(String words, Class<?> due, Call call) {
        Check.edge("Throws, changes nothing: " + words,
            () -> unchangedBy(words, desk -> Check.refused(words, due, Check.done(() -> call.on(desk)))));
    }

    /** What a desk answers behind a call, made three times, is what one answers that was spared it. */
    private static void unchangedBy(String what, Call call) {
        SpongeDesk tried = prepared();
        SpongeDesk spared = prepared();
        for (int times = 0; times < 3; times++) {
            call.on(tried);
        }
        Check.same(what, told(tried), told(spared));
    }

    /** A desk with something in all that it has: tape, name, custom, key and four sponges in the middle. */
    private static SpongeDesk prepared() {
        SpongeDesk desk = new SpongeDesk();
        for (int which = 0; which < 3; which++) {
            Rows.let(desk, which, Rows.odd(10, which));
        }
        Rows.feed(desk, Rows.odd(TAPE, 3));
        desk.begin(KEYED_OPEN, 8);
        desk.absorb(KEYED_OPEN);
        desk.bytes(KEYED_OPEN, 3, LONG);
        desk.begin(TUPLE_OPEN, 14);
        desk.absorb(TUPLE_OPEN);
        desk.begin(FOUR_LEFT, 3);
        desk.absorb(FOUR_LEFT);
        desk.end(FOUR_LEFT, 64);
        Rows.squeeze(desk, FOUR_LEFT, 60);
        desk.begin(ENDLESS, 5);
        desk.end(ENDLESS, 0);
        Rows.squeeze(desk, ENDLESS, 136);
        return desk;
    }

    /** All that a prepared desk can tell of what it has. */
    private static String told(SpongeDesk desk) {
        StringBuilder told = new StringBuilder();
        for (int k = 0; k < 4; k++) {
            told.append("kind ").append(desk.kind(k)).append(" left ").append(desk.left(k)).append(' ');
        }
        told.append("out ").append(Check.answer(() -> Rows.squeeze(desk, FOUR_LEFT, 4))).append(' ');
        told.append("endless ").append(Check.answer(() -> Rows.squeeze(desk, ENDLESS, 24))).append(' ');
        told.append("keyed ").append(Check.answer(() -> desk.absorb(KEYED_OPEN))).append(' ');
        told.append(Check.answer(() -> ended(desk, KEYED_OPEN, 100))).append(' ');
        told.append("tuple ").append(Check.answer(() -> desk.absorb(TUPLE_OPEN))).append(' ');
        told.append(Check.answer(() -> ended(desk, TUPLE_OPEN, 0))).append(' ');
        // The tape, the name and the custom come into kind 6, the key into kind 8.
        told.append("let ").append(Edges.madeOfTape(desk, 6)).append(' ').append(Edges.madeOfTape(desk, 8));
        return told.append(" tape ").append(desk.wipe()).toString();
    }

    private static String ended(SpongeDesk desk, int k, int length) {
        desk.end(k, length);
        return Rows.squeeze(desk, k, 24);
    }
}
