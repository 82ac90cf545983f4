/** The boundary cases of promises 5 to 8, each by itself: begin, absorb, bytes and end. */
public final class InwardEdgesTest {
    private static final long LONG = 0xF8F7F6F5F4F3F2F1L;

    public static void main(String[] args) {
        begin();
        absorb();
        bytes();
        end();
        endLengths();
        Check.close();
    }

    private static void begin() {
        Check.edge("Promise 5: k of 0 and 3, kind of 0 and 15", InwardEdgesTest::beginFirstAndLast);
        Check.edge("Promise 5: each kind begins, and is told", InwardEdgesTest::beginEach);
        Check.edge("Promise 5: a sponge in the middle of coming in begins", () -> beginAnew(false));
        Check.edge("Promise 5: a sponge that has ended begins", () -> beginAnew(true));
        Check.edge("Promise 5: a sponge with none left begins", InwardEdgesTest::beginBehindTheLast);
        Check.edge("Promise 5: the other sponges stay", InwardEdgesTest::beginAlone);
        Check.edge("Promise 5: name as it is now, not as it becomes", () -> beginWithNow(0, 6));
        Check.edge("Promise 5: custom as it is now, not as it becomes", () -> beginWithNow(1, 15));
        Check.edge("Promise 5: key as it is now, not as it becomes", () -> beginWithNow(2, 9));
        Check.edge("Promise 5: the tape stays, and does not come in", InwardEdgesTest::beginLeavesTheTape);
        Check.edge("Promise 5: IndexOutOfBoundsException: there is no sponge k", InwardEdgesTest::beginNoSponge);
        Check.edge("Promise 5: IllegalArgumentException: kind is not 0 to 15", InwardEdgesTest::beginNoKind);
    }

    private static void absorb() {
        Check.edge("Promise 6: k of 0 and 3", InwardEdgesTest::absorbFirstAndLast);
        Check.edge("Promise 6: the tape stays", InwardEdgesTest::absorbTwice);
        Check.edge("Promise 6: an empty tape, kinds 0 to 11: nothing comes in", () -> absorbEmpty(0, 11));
        Check.edge("Promise 6: an empty tape, kinds 12 to 15: STRING comes in", () -> absorbEmpty(12, 15));
        Check.edge("Promise 6: an empty tape between two others", InwardEdgesTest::absorbEmptyBetween);
        Check.edge("Promise 6: a full tape", InwardEdgesTest::absorbFull);
        Check.edge("Promise 6: answers tapes and bytes so far", InwardEdgesTest::absorbCounts);
        Check.edge("Promise 6: what comes in first is not counted", InwardEdgesTest::absorbCountsNotFirst);
        Check.edge("Promise 6: lengths before tapes are not counted", InwardEdgesTest::absorbCountsNotLengths);
        Check.edge("Promise 6: a new beginning counts from 0", InwardEdgesTest::absorbCountsAnew);
        Check.edge("Promise 6: IndexOutOfBoundsException: there is no sponge k", InwardEdgesTest::absorbNoSponge);
        Check.edge("Promise 6: IllegalStateException: it has ended", InwardEdgesTest::absorbEnded);
        Check.edge("Promise 6: it has ended, and the tape is empty", InwardEdgesTest::absorbEmptyEnded);
    }

    private static void bytes() {
        Check.edge("Promise 7: the n lowest bytes, n from 1 to 8", InwardEdgesTest::bytesEachSize);
        Check.edge("Promise 7: n of 1: the bytes above do not come in", InwardEdgesTest::bytesOne);
        Check.edge("Promise 7: n of 8: all bytes come in", InwardEdgesTest::bytesEight);
        Check.edge("Promise 7: k of 0 and 3", InwardEdgesTest::bytesFirstAndLast);
        Check.edge("Promise 7: answers as absorb(): tapes and bytes so far", InwardEdgesTest::bytesCount);
        Check.edge("Promise 7: bytes go on where a tape stopped", InwardEdgesTest::bytesBehindTapes);
        Check.edge("Promise 7: the tape stays", InwardEdgesTest::bytesLeaveTheTape);
        Check.edge("Promise 7: IndexOutOfBoundsException: there is no sponge k", InwardEdgesTest::bytesNoSponge);
        Check.edge("Promise 7: IllegalArgumentException: n is not 1 to 8", InwardEdgesTest::bytesNoSize);
        Check.edge("Promise 7: IllegalStateException: it has ended", InwardEdgesTest::bytesEnded);
        Check.edge("Promise 7: IllegalStateException: its kind is 12 to 15", InwardEdgesTest::bytesOfTuples);
        Check.edge("Promise 7: its kind is 12 to 15, and it has ended", InwardEdgesTest::bytesOfTuplesEnded);
        Check.edge("Promise 7: the kind 11, next to 12, takes bytes", () -> bytesOfKind(11));
    }

    private static void end() {
        Check.edge("Promise 8: k of 0 and 3", InwardEdgesTest::endFirstAndLast);
        Check.edge("Promise 8: IndexOutOfBoundsException: there is no sponge k", InwardEdgesTest::endNoSponge);
        Check.edge("Promise 8: IllegalStateException: it has ended", InwardEdgesTest::endEnded);
        Check.edge("Promise 8: it has ended, and none are left", InwardEdgesTest::endEndedWithNoneLeft);
        Check.edge("Promise 8: it has ended with another length", InwardEdgesTest::endEndedOtherwise);
        Check.edge("Promise 8: a sponge ends without anything that came in", InwardEdgesTest::endOfNothing);
        Check.edge("Promise 8: behind a refused end, more comes in and it ends", InwardEdgesTest::endBehindRefusal);
    }

    private static void endLengths() {
        Check.edge("Promise 8: the length of kind 0 is 28", () -> endLengthOfDigest(0, 28));
        Check.edge("Promise 8: the length of kind 1 is 32", () -> endLengthOfDigest(1, 32));
        Check.edge("Promise 8: the length of kind 2 is 48", () -> endLengthOfDigest(2, 48));
        Check.edge("Promise 8: the length of kind 3 is 64", () -> endLengthOfDigest(3, 64));
        Check.edge("Promise 8: 0 for any number", InwardEdgesTest::endLengthOfEndless);
        Check.edge("Promise 8: a chosen length of 0 is refused", () -> endChosenRefused(0));
        Check.edge("Promise 8: a chosen length of 1", () -> endChosen(1));
        Check.edge("Promise 8: a chosen length of 2", () -> endChosen(2));
        Check.edge("Promise 8: a chosen length of 999", () -> endChosen(999));
        Check.edge("Promise 8: a chosen length of 1000", () -> endChosen(1000));
        Check.edge("Promise 8: a chosen length of 1001 is refused", () -> endChosenRefused(1001));
        Check.edge("Promise 8: a negative length is refused", InwardEdgesTest::endNegative);
        Check.edge("Promise 8: the greatest length is refused", InwardEdgesTest::endGreatest);
        Check.edge("Promise 8: the length of another kind is refused", InwardEdgesTest::endOfAnotherKind);
    }

    private static void beginFirstAndLast() {
        for (int k : new int[] {0, 3}) {
            for (int kind : new int[] {0, 15}) {
                SpongeDesk desk = new SpongeDesk();
                desk.begin(k, 4);
                desk.begin(k, kind);
                Check.same("kind(" + k + ")", desk.kind(k), kind);
                desk.end(k, Edges.LENGTHS[kind]);
                String due = Edges.ended(Edges.begun(kind), kind).out(24);
                Check.same("sponge " + k + ", kind " + kind, Rows.squeeze(desk, k, 24), due);
            }
        }
    }

    private static void beginEach() {
        for (int k = 0; k < 4; k++) {
            for (int kind = 0; kind < 16; kind++) {
                SpongeDesk desk = new SpongeDesk();
                desk.begin(k, kind);
                Check.same("kind(" + k + ")", desk.kind(k), kind);
                Check.same("left(" + k + ")", desk.left(k), -1);
                Check.same("absorb(" + k + ")", desk.absorb(k), 0);
            }
        }
    }

    private static void beginAnew(boolean ended) {
        for (int before = 0; before < 16; before++) {
            for (int kind = 0; kind < 16; kind++) {
                SpongeDesk desk = Edges.deskWithTape(Rows.of("abcde"));
                desk.begin(0, before);
                desk.absorb(0);
                if (ended) {
                    desk.end(0, Edges.LENGTHS[before]);
                    desk.squeeze(0, 3);
                }
                desk.begin(0, kind);
                Check.same("kind " + kind + " behind " + before, desk.kind(0), kind);
                Check.same("left behind " + before, desk.left(0), -1);
                Check.same("absorb behind " + before, desk.absorb(0), 5);
                desk.end(0, Edges.LENGTHS[kind]);
                PlainSponge due = Edges.begun(kind).in(Edges.ofTape(kind, Rows.of("abcde")));
                Check.same("kind " + kind + " behind " + before, Rows.squeeze(desk, 0, 8),
                    Edges.ended(due, kind).out(8));
            }
        }
    }

    private static void beginBehindTheLast() {
        SpongeDesk desk = Edges.deskEnded(9, 1);
        desk.squeeze(0, 1);
        Check.same("left(0)", desk.left(0), 0);
        desk.begin(0, 9);
        Check.same("left(0) of the new", desk.left(0), -1);
        Check.same("bytes(0, 8)", desk.bytes(0, 8, LONG), 8);
        desk.end(0, 2);
        Check.same("left(0), ended again", desk.left(0), 2);
    }

    private static void beginAlone() {
        for (int k = 0; k < 4; k++) {
            SpongeDesk desk = new SpongeDesk();
            for (int other = 0; other < 4; other++) {
                desk.begin(other, 4);
                desk.bytes(other, 4, LONG);
            }
            desk.begin(k, 5);
            for (int other = 0; other < 4; other++) {
                Check.same("kind(" + other + ")", desk.kind(other), other == k ? 5 : 4);
                Check.same("bytes(" + other + ", 1)", desk.bytes(other, 1, 'a'), other == k ? 1 : 5);
            }
        }
    }

    private static void beginWithNow(int which, int kind) {
        SpongeDesk desk = new SpongeDesk();
        SpongeDesk due = new SpongeDesk();
        SpongeDesk later = new SpongeDesk();
        Rows.let(desk, which, Rows.of("now"));
        Rows.let(due, which, Rows.of("now"));
        Rows.let(later, which, Rows.of("later"));
        desk.begin(1, kind);
        Rows.let(desk, which, Rows.of("later"));
        due.begin(1, kind);
        later.begin(1, kind);
        desk.begin(2, kind);
        String now = made(due, 1, kind);
        String then = made(later, 1, kind);
        Check.no("the two differ", now.equals(then));
        Check.same("begun before", made(desk, 1, kind), now);
        Check.same("begun behind it", made(desk, 2, kind), then);
    }

    private static String made(SpongeDesk desk, int k, int kind) {
        desk.end(k, Edges.LENGTHS[kind]);
        return Rows.squeeze(desk, k, 24);
    }

    private static void beginLeavesTheTape() {
        for (int kind = 0; kind < 16; kind++) {
            SpongeDesk desk = Edges.deskWithTape(Rows.of("abc"));
            desk.begin(0, kind);
            desk.begin(1, kind);
            Check.same("made of nothing, kind " + kind, made(desk, 1, kind),
                Edges.ended(Edges.begun(kind), kind).out(24));
            Check.same("absorb(0), kind " + kind, desk.absorb(0), 3);
            Check.same("wipe(), kind " + kind, desk.wipe(), 3);
        }
    }

    private static void beginNoSponge() {
        SpongeDesk desk = new SpongeDesk();
        for (int k : Edges.NO_SPONGE) {
            for (int kind : new int[] {0, 15}) {
                Check.refused("begin(" + k + ", " + kind + ")", Edges.INDEX, Check.done(() -> desk.begin(k, kind)));
            }
        }
        for (int k = 0; k < 4; k++) {
            Check.same("kind(" + k + ")", desk.kind(k), 0);
        }
    }

    private static void beginNoKind() {
        SpongeDesk desk = Edges.deskWith(4);
        desk.bytes(0, 3, LONG);
        for (int kind : Edges.NO_KIND) {
            for (int k = 0; k < 4; k++) {
                int sponge = k;
                Check.refused("begin(" + k + ", " + kind + ")", Edges.ARGUMENT,
                    Check.done(() -> desk.begin(sponge, kind)));
            }
        }
        Check.same("kind(0)", desk.kind(0), 4);
        Check.same("bytes(0, 1)", desk.bytes(0, 1, LONG), 4);
    }

    private static void absorbFirstAndLast() {
        for (int k : new int[] {0, 3}) {
            SpongeDesk desk = Edges.deskWithTape(Rows.of("abc"));
            desk.begin(k, 4);
            Check.same("absorb(" + k + ")", desk.absorb(k), 3);
            desk.end(k, 0);
            Check.same("sponge " + k, Rows.squeeze(desk, k, 24),
                new PlainSponge(168).in(Rows.of("abc")).end(31).out(24));
        }
    }

    private static void absorbTwice() {
        for (int kind = 0; kind < 16; kind++) {
            byte[] tape = Rows.odd(40, kind);
            SpongeDesk desk = Edges.deskWithTape(tape);
            desk.begin(1, kind);
            desk.begin(2, kind);
            Check.same("once", desk.absorb(1), 40);
            Check.same("twice", desk.absorb(1), 80);
            Check.same("another sponge", desk.absorb(2), 40);
            byte[] row = Edges.ofTape(kind, tape);
            Check.same("twice, kind " + kind, made(desk, 1, kind),
                Edges.ended(Edges.begun(kind).in(row).in(row), kind).out(24));
            Check.same("once, kind " + kind, made(desk, 2, kind), Edges.ended(Edges.begun(kind).in(row), kind).out(24));
            Check.same("wipe()", desk.wipe(), 40);
        }
    }

    private static void absorbEmpty(int first, int last) {
        for (int kind = first; kind <= last; kind++) {
            SpongeDesk desk = Edges.deskWith(kind);
            desk.copy(1, 0);
            Check.same("an empty tape, kind " + kind, desk.absorb(0), 0);
            desk.copy(2, 0);
            Check.same("again, kind " + kind, desk.absorb(2), 0);
            PlainSponge once = Edges.begun(kind);
            PlainSponge twice = Edges.begun(kind);
            if (kind >= 12) {
                once.in("0100");
                twice.in("01000100");
            }
            Check.same("no tape, kind " + kind, made(desk, 1, kind), Edges.ended(Edges.begun(kind), kind).out(24));
            Check.same("one, kind " + kind, made(desk, 0, kind), Edges.ended(once, kind).out(24));
            Check.same("two, kind " + kind, made(desk, 2, kind), Edges.ended(twice, kind).out(24));
        }
    }

    private static void absorbEmptyBetween() {
        for (int kind = 0; kind < 16; kind++) {
            SpongeDesk desk = Edges.deskWithTape(Rows.of("ab"));
            desk.begin(0, kind);
            Check.same("the first", desk.absorb(0), 2);
            desk.wipe();
            Check.same("the empty one", desk.absorb(0), 2);
            desk.feed(1, 'c');
            Check.same("the last", desk.absorb(0), 3);
            PlainSponge due = Edges.begun(kind).in(kind < 12 ? "616263" : "011061620100010863");
            Check.same("kind " + kind, made(desk, 0, kind), Edges.ended(due, kind).out(24));
        }
    }

    private static void absorbFull() {
        for (int kind = 0; kind < 16; kind++) {
            byte[] tape = Rows.odd(300, kind);
            SpongeDesk desk = Edges.deskWithTape(tape);
            desk.begin(0, kind);
            Check.same("one", desk.absorb(0), 300);
            Check.same("two", desk.absorb(0), 600);
            byte[] row = kind < 12 ? tape : Model.join(Rows.ofHex("020960"), tape);
            Check.same("kind " + kind, made(desk, 0, kind),
                Edges.ended(Edges.begun(kind).in(row).in(row), kind).out(24));
        }
    }

    private static void absorbCounts() {
        for (int kind = 0; kind < 12; kind++) {
            SpongeDesk desk = Edges.deskWithTape(Rows.of("abc"));
            desk.begin(0, kind);
            Check.same("bytes before", desk.bytes(0, 8, LONG), 8);
            Check.same("a tape", desk.absorb(0), 11);
            Check.same("bytes behind", desk.bytes(0, 1, LONG), 12);
            Check.same("a tape again", desk.absorb(0), 15);
        }
    }

    private static void absorbCountsNotFirst() {
        for (int kind = 6; kind < 16; kind++) {
            SpongeDesk desk = new SpongeDesk();
            for (int which = 0; which < 3; which++) {
                Rows.let(desk, which, Rows.odd(100, which));
            }
            desk.begin(0, kind);
            Check.same("nothing yet, kind " + kind, desk.absorb(0), 0);
            desk.feed(2, LONG);
            Check.same("two, kind " + kind, desk.absorb(0), 2);
        }
    }

    private static void absorbCountsNotLengths() {
        for (int kind = 12; kind < 16; kind++) {
            SpongeDesk desk = Edges.deskWithTape(Rows.odd(31, kind));
            desk.begin(0, kind);
            Check.same("behind a length of one byte", desk.absorb(0), 31);
            desk.feed(1, LONG);
            Check.same("behind a length of two bytes", desk.absorb(0), 63);
            desk.wipe();
            Check.same("behind a length of 0", desk.absorb(0), 63);
        }
    }

    private static void absorbCountsAnew() {
        for (int kind = 0; kind < 16; kind++) {
            SpongeDesk desk = Edges.deskWithTape(Rows.of("abc"));
            desk.begin(0, kind);
            Check.same("at first", desk.absorb(0), 3);
            desk.begin(0, kind);
            Check.same("begun in the middle", desk.absorb(0), 3);
            desk.end(0, Edges.LENGTHS[kind]);
            desk.begin(0, kind);
            Check.same("begun behind the end", desk.absorb(0), 3);
        }
    }

    private static void absorbNoSponge() {
        SpongeDesk desk = Edges.deskWithTape(Rows.of("abc"));
        for (int k : Edges.NO_SPONGE) {
            Check.refused("absorb(" + k + ")", Edges.INDEX, () -> desk.absorb(k));
        }
        for (int k = 0; k < 4; k++) {
            Check.same("absorb(" + k + ")", desk.absorb(k), 3);
        }
    }

    private static void absorbEnded() {
        for (int kind = 0; kind < 16; kind++) {
            SpongeDesk desk = Edges.deskEnded(kind);
            desk.feed(3, LONG);
            Check.refused("absorb, kind " + kind, Edges.STATE, () -> desk.absorb(0));
            Check.same("what comes out", Rows.squeeze(desk, 0, 12),
                Edges.ended(Edges.begun(kind), kind).out(24).substring(0, 24));
            Check.refused("absorb in the middle, kind " + kind, Edges.STATE, () -> desk.absorb(0));
            Check.same("what comes out then", Rows.squeeze(desk, 0, 12),
                Edges.ended(Edges.begun(kind), kind).out(24).substring(24));
        }
    }

    private static void absorbEmptyEnded() {
        for (int kind = 0; kind < 16; kind++) {
            SpongeDesk desk = Edges.deskEnded(kind);
            Check.refused("absorb, kind " + kind, Edges.STATE, () -> desk.absorb(0));
        }
    }

    private static void bytesEachSize() {
        for (int n = 1; n <= 8; n++) {
            SpongeDesk desk = Edges.deskWith(4);
            Check.same("bytes(0, " + n + ")", desk.bytes(0, n, LONG), n);
            Check.same("bytes(0, " + n + ")", made(desk, 0, 4),
                new PlainSponge(168).in(Rows.upFrom(0xF1, n)).end(31).out(24));
        }
    }

    private static void bytesOne() {
        SpongeDesk desk = Edges.deskWith(4);
        Check.same("bytes(0, 1, -256)", desk.bytes(0, 1, -256L), 1);
        Check.same("bytes(0, 1, 0x1FF)", desk.bytes(0, 1, 0x1FFL), 2);
        Check.same("single bytes", made(desk, 0, 4), new PlainSponge(168).in("00ff").end(31).out(24));
    }

    private static void bytesEight() {
        SpongeDesk desk = Edges.deskWith(4);
        Check.same("the least long", desk.bytes(0, 8, Long.MIN_VALUE), 8);
        Check.same("the greatest long", desk.bytes(0, 8, Long.MAX_VALUE), 16);
        Check.same("all eight bytes", made(desk, 0, 4),
            new PlainSponge(168).in("0000000000000080ffffffffffffff7f").end(31).out(24));
    }

    private static void bytesFirstAndLast() {
        for (int k : new int[] {0, 3}) {
            SpongeDesk desk = new SpongeDesk();
            desk.begin(k, 5);
            Check.same("bytes(" + k + ", 3)", desk.bytes(k, 3, 0x636261), 3);
            Check.same("sponge " + k, made(desk, k, 5), new PlainSponge(136).in("616263").end(31).out(24));
        }
    }

    private static void bytesCount() {
        SpongeDesk desk = Edges.deskWithTape(Rows.odd(300, 1));
        for (int kind = 0; kind < 12; kind++) {
            desk.begin(0, kind);
            Check.same("the first, kind " + kind, desk.bytes(0, 1, LONG), 1);
            Check.same("a tape, kind " + kind, desk.absorb(0), 301);
            Check.same("behind it, kind " + kind, desk.bytes(0, 8, LONG), 309);
        }
    }

    private static void bytesBehindTapes() {
        for (int kind = 0; kind < 12; kind++) {
            byte[] tape = Rows.odd(67, kind);
            SpongeDesk desk = Edges.deskWithTape(tape);
            desk.begin(0, kind);
            desk.bytes(0, 5, LONG);
            desk.absorb(0);
            desk.bytes(0, 8, LONG);
            PlainSponge due = Edges.begun(kind).in(Rows.upFrom(0xF1, 5)).in(tape).in(Rows.upFrom(0xF1, 8));
            Check.same("kind " + kind, made(desk, 0, kind), Edges.ended(due, kind).out(24));
        }
    }

    private static void bytesLeaveTheTape() {
        SpongeDesk desk = Edges.deskWithTape(Rows.of("abc"));
        desk.bytes(1, 8, LONG);
        Edges.tapeIs("the tape", desk, Rows.of("abc"));
    }

    private static void bytesNoSponge() {
        SpongeDesk desk = new SpongeDesk();
        for (int k : Edges.NO_SPONGE) {
            Check.refused("bytes(" + k + ", 1)", Edges.INDEX, () -> desk.bytes(k, 1, LONG));
        }
        for (int k = 0; k < 4; k++) {
            Check.same("bytes(" + k + ", 1)", desk.bytes(k, 1, LONG), 1);
        }
    }

    private static void bytesNoSize() {
        for (int kind = 0; kind < 12; kind++) {
            SpongeDesk desk = Edges.deskWith(kind);
            for (int n : Edges.NO_SIZE) {
                Check.refused("bytes(0, " + n + "), kind " + kind, Edges.ARGUMENT, () -> desk.bytes(0, n, LONG));
            }
            Check.same("the count, kind " + kind, desk.absorb(0), 0);
            Check.same("kind " + kind, made(desk, 0, kind), Edges.ended(Edges.begun(kind), kind).out(24));
        }
    }

    private static void bytesEnded() {
        for (int kind = 0; kind < 12; kind++) {
            SpongeDesk desk = Edges.deskEnded(kind);
            for (int n = 1; n <= 8; n++) {
                int size = n;
                Check.refused("bytes(0, " + n + "), kind " + kind, Edges.STATE, () -> desk.bytes(0, size, LONG));
            }
            Check.same("kind " + kind, Rows.squeeze(desk, 0, 24), Edges.ended(Edges.begun(kind), kind).out(24));
        }
    }

    private static void bytesOfTuples() {
        for (int kind = 12; kind < 16; kind++) {
            SpongeDesk desk = Edges.deskWithTape(Rows.of("z"));
            desk.begin(0, kind);
            for (int n = 1; n <= 8; n++) {
                int size = n;
                Check.refused("bytes(0, " + n + "), kind " + kind, Edges.STATE, () -> desk.bytes(0, size, LONG));
            }
            Check.same("the count, kind " + kind, desk.absorb(0), 1);
            Check.refused("behind a tape, kind " + kind, Edges.STATE, () -> desk.bytes(0, 1, LONG));
            Check.same("kind " + kind, made(desk, 0, kind),
                Edges.ended(Edges.begun(kind).in("01087a"), kind).out(24));
        }
    }

    private static void bytesOfTuplesEnded() {
        for (int kind = 12; kind < 16; kind++) {
            SpongeDesk desk = Edges.deskEnded(kind);
            Check.refused("bytes(0, 1), kind " + kind, Edges.STATE, () -> desk.bytes(0, 1, LONG));
        }
    }

    private static void bytesOfKind(int kind) {
        SpongeDesk desk = Edges.deskWith(kind);
        Check.same("bytes(0, 8)", desk.bytes(0, 8, LONG), 8);
        Check.same("kind " + kind, made(desk, 0, kind),
            Edges.ended(Edges.begun(kind).in(Rows.upFrom(0xF1, 8)), kind).out(24));
    }

    private static void endFirstAndLast() {
        for (int k : new int[] {0, 3}) {
            SpongeDesk desk = new SpongeDesk();
            desk.end(k, 28);
            for (int other = 0; other < 4; other++) {
                Check.same("kind(" + other + ")", desk.kind(other), other == k ? 16 : 0);
            }
        }
    }

    private static void endNoSponge() {
        SpongeDesk desk = new SpongeDesk();
        for (int k : Edges.NO_SPONGE) {
            for (int length : new int[] {28, 0, 1000}) {
                Check.refused("end(" + k + ", " + length + ")", Edges.INDEX, Check.done(() -> desk.end(k, length)));
            }
        }
        for (int k = 0; k < 4; k++) {
            Check.same("kind(" + k + ")", desk.kind(k), 0);
        }
    }

    private static void endEnded() {
        for (int kind = 0; kind < 16; kind++) {
            SpongeDesk desk = Edges.deskEnded(kind);
            int length = Edges.LENGTHS[kind];
            Check.refused("end(0, " + length + ")", Edges.STATE, Check.done(() -> desk.end(0, length)));
            String due = Edges.ended(Edges.begun(kind), kind).out(24);
            Check.same("kind " + kind, Rows.squeeze(desk, 0, 10), due.substring(0, 20));
            Check.refused("end(0, " + length + ") in the middle", Edges.STATE, Check.done(() -> desk.end(0, length)));
            Check.same("kind " + kind + " then", Rows.squeeze(desk, 0, 14), due.substring(20));
        }
    }

    private static void endEndedWithNoneLeft() {
        for (int kind : Edges.CHOSEN_KINDS) {
            SpongeDesk desk = Edges.deskEnded(kind, 1);
            desk.squeeze(0, 1);
            Check.refused("end(0, 1), kind " + kind, Edges.STATE, Check.done(() -> desk.end(0, 1)));
            Check.same("left(0)", desk.left(0), 0);
            Check.same("kind(0)", desk.kind(0), kind + 16);
        }
    }

    private static void endEndedOtherwise() {
        for (int kind : Edges.CHOSEN_KINDS) {
            SpongeDesk desk = Edges.deskEnded(kind, 9);
            Check.refused("end(0, 10), kind " + kind, Edges.STATE, Check.done(() -> desk.end(0, 10)));
            Check.same("left(0)", desk.left(0), 9);
        }
    }

    private static void endOfNothing() {
        for (int kind = 0; kind < 16; kind++) {
            SpongeDesk desk = Edges.deskWith(kind);
            desk.end(0, Edges.LENGTHS[kind]);
            Check.same("kind(0)", desk.kind(0), kind + 16);
            Check.same("kind " + kind, Rows.squeeze(desk, 0, 24), Edges.ended(Edges.begun(kind), kind).out(24));
        }
    }

    private static void endBehindRefusal() {
        for (int kind = 0; kind < 16; kind++) {
            SpongeDesk desk = Edges.deskWithTape(Rows.of("abc"));
            desk.begin(0, kind);
            Check.refused("end(0, 1001)", Edges.ARGUMENT, Check.done(() -> desk.end(0, 1001)));
            Check.same("kind(0)", desk.kind(0), kind);
            Check.same("absorb(0)", desk.absorb(0), 3);
            PlainSponge due = Edges.begun(kind).in(Edges.ofTape(kind, Rows.of("abc")));
            Check.same("kind " + kind, made(desk, 0, kind), Edges.ended(due, kind).out(24));
        }
    }

    private static void endLengthOfDigest(int kind, int due) {
        SpongeDesk desk = Edges.deskWith(kind);
        for (int length : new int[] {due - 1, due + 1, 0, 1, -due, due + 256, 1000}) {
            Check.refused("end(0, " + length + ")", Edges.ARGUMENT, Check.done(() -> desk.end(0, length)));
        }
        desk.end(0, due);
        Check.same("left(0)", desk.left(0), due);
        Check.same("kind(0)", desk.kind(0), kind + 16);
    }

    private static void endLengthOfEndless() {
        for (int kind : Edges.ENDLESS_KINDS) {
            SpongeDesk desk = Edges.deskWith(kind);
            for (int length : new int[] {-1, 1, 28, 32, 1000, 1001, 65536, Integer.MIN_VALUE, Integer.MAX_VALUE}) {
                Check.refused("end(0, " + length + "), kind " + kind, Edges.ARGUMENT,
                    Check.done(() -> desk.end(0, length)));
            }
            desk.end(0, 0);
            Check.same("kind(0)", desk.kind(0), kind + 16);
            Check.same("left(0)", desk.left(0), -1);
        }
    }

    private static void endChosenRefused(int length) {
        for (int kind : Edges.CHOSEN_KINDS) {
            SpongeDesk desk = Edges.deskWith(kind);
            Check.refused("end(0, " + length + "), kind " + kind, Edges.ARGUMENT,
                Check.done(() -> desk.end(0, length)));
            Check.same("kind(0)", desk.kind(0), kind);
        }
    }

    private static void endChosen(int length) {
        for (int kind : Edges.CHOSEN_KINDS) {
            SpongeDesk desk = Edges.deskEnded(kind, length);
            Check.same("kind(0)", desk.kind(0), kind + 16);
            Check.same("left(0)", desk.left(0), length);
            PlainSponge due = Edges.begun(kind).in(Model.right(Model.number(8 * length))).end(4);
            int count = Math.min(length, 24);
            Check.same("length " + length + ", kind " + kind, Rows.squeeze(desk, 0, count), due.out(count));
        }
    }

    private static void endNegative() {
        for (int kind = 0; kind < 16; kind++) {
            SpongeDesk desk = Edges.deskWith(kind);
            for (int length : new int[] {-1, -28, -32, -1000, Integer.MIN_VALUE}) {
                Check.refused("end(0, " + length + "), kind " + kind, Edges.ARGUMENT,
                    Check.done(() -> desk.end(0, length)));
            }
        }
    }

    private static void endGreatest() {
        for (int kind = 0; kind < 16; kind++) {
            SpongeDesk desk = Edges.deskWith(kind);
            for (int length : new int[] {Integer.MAX_VALUE, 1 << 29, 65536, 1002}) {
                Check.refused("end(0, " + length + "), kind " + kind, Edges.ARGUMENT,
                    Check.done(() -> desk.end(0, length)));
            }
        }
    }

    private static void endOfAnotherKind() {
        for (int kind = 0; kind < 8; kind++) {
            SpongeDesk desk = Edges.deskWith(kind);
            for (int length : new int[] {0, 28, 32, 48, 64}) {
                if (length != Edges.LENGTHS[kind]) {
                    Check.refused("end(0, " + length + "), kind " + kind, Edges.ARGUMENT,
                        Check.done(() -> desk.end(0, length)));
                }
            }
        }
    }
}
