/** The boundary cases of promises 9 to 13, each by itself: squeeze, left, copy, kind and same. */
public final class OutwardEdgesTest {
    /** Two messages of eight bytes whose digests of kind 1 begin with the same seven bytes, and no more. */
    private static final long ALIKE = 25867674L;
    private static final long ALIKE_TOO = 388637404L;

    public static void main(String[] args) {
        squeeze();
        left();
        copy();
        kind();
        same();
        sameRefused();
        Check.close();
    }

    private static void squeeze() {
        Check.edge("Promise 9: n from 1 to 8, the first one the lowest", OutwardEdgesTest::squeezeEachSize);
        Check.edge("Promise 9: n of 1 to 7: 0 above, whatever the bytes", OutwardEdgesTest::squeezeZeroAbove);
        Check.edge("Promise 9: n of 8 with a highest byte over 127", OutwardEdgesTest::squeezeNegative);
        Check.edge("Promise 9: the next bytes, not the first again", OutwardEdgesTest::squeezeNext);
        Check.edge("Promise 9: k of 0 and 3", OutwardEdgesTest::squeezeFirstAndLast);
        Check.edge("Promise 9: there is no end to endless ones", OutwardEdgesTest::squeezeEndless);
        Check.edge("Promise 9: all bytes of a chosen length come out", OutwardEdgesTest::squeezeAllChosen);
        Check.edge("Promise 9: n is just what is left", OutwardEdgesTest::squeezeJustEnough);
        Check.edge("Promise 9: IllegalStateException: less than n left", OutwardEdgesTest::squeezeTooMany);
        Check.edge("Promise 9: IllegalStateException: none left", OutwardEdgesTest::squeezeNoneLeft);
        Check.edge("Promise 9: IllegalStateException: it hasn't ended", OutwardEdgesTest::squeezeNotEnded);
        Check.edge("Promise 9: begun again, it hasn't ended", OutwardEdgesTest::squeezeBegunAgain);
        Check.edge("Promise 9: IllegalArgumentException: n is not 1 to 8", OutwardEdgesTest::squeezeNoSize);
        Check.edge("Promise 9: IndexOutOfBoundsException: there is no sponge k", OutwardEdgesTest::squeezeNoSponge);
    }

    private static void left() {
        Check.edge("Promise 10: NONE when it has not ended", OutwardEdgesTest::leftNotEnded);
        Check.edge("Promise 10: NONE when there is no end to them", OutwardEdgesTest::leftEndless);
        Check.edge("Promise 10: the whole length when it has just ended", OutwardEdgesTest::leftAtFirst);
        Check.edge("Promise 10: less by what came out", OutwardEdgesTest::leftLess);
        Check.edge("Promise 10: 0, not NONE, when all came out", OutwardEdgesTest::leftNothing);
        Check.edge("Promise 10: a refused squeeze takes nothing from it", OutwardEdgesTest::leftBehindRefusal);
        Check.edge("Promise 10: NONE again when it begins again", OutwardEdgesTest::leftBegunAgain);
        Check.edge("Promise 10: k of 0 and 3", OutwardEdgesTest::leftFirstAndLast);
        Check.edge("Promise 10: IndexOutOfBoundsException: there is no sponge k", OutwardEdgesTest::leftNoSponge);
    }

    private static void copy() {
        Check.edge("Promise 11: a sponge to itself, coming in", OutwardEdgesTest::copyToItselfComingIn);
        Check.edge("Promise 11: a sponge to itself, coming out", OutwardEdgesTest::copyToItselfComingOut);
        Check.edge("Promise 11: in the middle of coming in", OutwardEdgesTest::copyComingIn);
        Check.edge("Promise 11: just before and behind a full width", OutwardEdgesTest::copyAtTheWidth);
        Check.edge("Promise 11: in the middle of coming out", OutwardEdgesTest::copyComingOut);
        Check.edge("Promise 11: how many came in is copied", OutwardEdgesTest::copyTheCount);
        Check.edge("Promise 11: kind, end and what is left are copied", OutwardEdgesTest::copyKindAndLeft);
        Check.edge("Promise 11: none left is copied", OutwardEdgesTest::copyNoneLeft);
        Check.edge("Promise 11: an ended one becomes like one that has not", OutwardEdgesTest::copyOverEnded);
        Check.edge("Promise 11: what came in first is copied, not made anew", OutwardEdgesTest::copyWhatCameFirst);
        Check.edge("Promise 11: both go on by themselves, coming in", OutwardEdgesTest::copyApartComingIn);
        Check.edge("Promise 11: both go on by themselves, coming out", OutwardEdgesTest::copyApartComingOut);
        Check.edge("Promise 11: every k from every i", OutwardEdgesTest::copyEachToEach);
        Check.edge("Promise 11: IndexOutOfBoundsException: there is no sponge k", OutwardEdgesTest::copyNoTarget);
        Check.edge("Promise 11: IndexOutOfBoundsException: there is no sponge i", OutwardEdgesTest::copyNoSource);
        Check.edge("Promise 11: there is neither, k and i alike", OutwardEdgesTest::copyNeither);
    }

    private static void kind() {
        Check.edge("Promise 12: before the end, each kind", OutwardEdgesTest::kindBefore);
        Check.edge("Promise 12: 16 more behind the end, each kind", OutwardEdgesTest::kindBehind);
        Check.edge("Promise 12: 16 more still when all came out", OutwardEdgesTest::kindNoneLeft);
        Check.edge("Promise 12: 6 and 7, though they are as 4 and 5", OutwardEdgesTest::kindOfBothEmpty);
        Check.edge("Promise 12: begun again, no more 16", OutwardEdgesTest::kindBegunAgain);
        Check.edge("Promise 12: k of 0 and 3", OutwardEdgesTest::kindFirstAndLast);
        Check.edge("Promise 12: IndexOutOfBoundsException: there is no sponge k", OutwardEdgesTest::kindNoSponge);
    }

    private static void same() {
        Check.edge("Promise 13: a sponge with itself, n from 1 to 64", OutwardEdgesTest::sameWithItself);
        Check.edge("Promise 13: alike in 7 bytes: n of 7 and 8", OutwardEdgesTest::sameUpToTheSeventh);
        Check.edge("Promise 13: the next bytes, not the first", OutwardEdgesTest::sameOfTheNext);
        Check.edge("Promise 13: n of 1, alike and not", OutwardEdgesTest::sameOfOne);
        Check.edge("Promise 13: n of 64, alike and not", OutwardEdgesTest::sameOf64);
        Check.edge("Promise 13: over the rim of a width", OutwardEdgesTest::sameOverTheRim);
        Check.edge("Promise 13: alike by chance, at other places", OutwardEdgesTest::sameAtOtherPlaces);
        Check.edge("Promise 13: alike by chance, over the rim of a width", OutwardEdgesTest::sameByChanceOverTheRim);
        Check.edge("Promise 13: other kinds, the same bytes", OutwardEdgesTest::sameOfOtherKinds);
        Check.edge("Promise 13: both orders of k and i", OutwardEdgesTest::sameBothOrders);
        Check.edge("Promise 13: one that has come further is another", OutwardEdgesTest::sameOneFurther);
        Check.edge("Promise 13: they do not come out", OutwardEdgesTest::sameTakesNothing);
        Check.edge("Promise 13: they do not come out, when it is false", OutwardEdgesTest::sameTakesNothingIfFalse);
        Check.edge("Promise 13: n is just what is left", OutwardEdgesTest::sameJustEnough);
    }

    private static void sameRefused() {
        Check.edge("Promise 13: IndexOutOfBoundsException: there is no sponge k", OutwardEdgesTest::sameNoFirst);
        Check.edge("Promise 13: IndexOutOfBoundsException: there is no sponge i", OutwardEdgesTest::sameNoSecond);
        Check.edge("Promise 13: IllegalArgumentException: n is not 1 to 64", OutwardEdgesTest::sameNoSize);
        Check.edge("Promise 13: IllegalStateException: k hasn't ended", () -> sameNotEnded(1, 0));
        Check.edge("Promise 13: IllegalStateException: i hasn't ended", () -> sameNotEnded(0, 1));
        Check.edge("Promise 13: IllegalStateException: neither has ended", () -> sameNotEnded(1, 2));
        Check.edge("Promise 13: hasn't ended, a sponge with itself", () -> sameNotEnded(1, 1));
        Check.edge("Promise 13: IllegalStateException: k has less than n left", () -> sameTooMany(1, 0));
        Check.edge("Promise 13: IllegalStateException: i has less than n left", () -> sameTooMany(0, 1));
        Check.edge("Promise 13: less than n left, a sponge with itself", () -> sameTooMany(1, 1));
        Check.edge("Promise 13: IllegalStateException: none left", OutwardEdgesTest::sameNoneLeft);
    }

    private static String dueOf(int kind, int from, int to) {
        return Edges.ended(Edges.begun(kind), kind).out(to).substring(2 * from);
    }

    private static void squeezeEachSize() {
        for (int kind = 0; kind < 16; kind++) {
            for (int n = 1; n <= 8; n++) {
                SpongeDesk desk = Edges.deskEnded(kind);
                long due = Rows.asLong(Rows.ofHex(dueOf(kind, 0, n)), 0, n);
                Check.same("squeeze(0, " + n + "), kind " + kind, desk.squeeze(0, n), due);
            }
        }
    }

    private static void squeezeZeroAbove() {
        for (int n = 1; n < 8; n++) {
            SpongeDesk desk = Edges.deskEnded(5);
            for (int times = 0; times < 100; times++) {
                Check.same("above " + n + " bytes", desk.squeeze(0, n) >>> (8 * n), 0L);
            }
        }
    }

    /** Published bytes: 7f9c2ba4e88f827d 616045507605853e d73b8093f6efbc88. */
    private static void squeezeNegative() {
        SpongeDesk desk = Edges.deskEnded(4);
        Check.same("the first eight", desk.squeeze(0, 8), 0x7D828FE8A42B9C7FL);
        Check.same("the next eight", desk.squeeze(0, 8), 0x3E85057650456061L);
        Check.same("a highest byte of 88", desk.squeeze(0, 8), 0x88BCEFF693803BD7L);
    }

    private static void squeezeNext() {
        for (int kind = 0; kind < 16; kind++) {
            SpongeDesk desk = Edges.deskEnded(kind);
            String due = dueOf(kind, 0, 28);
            Check.same("1, kind " + kind, Rows.hex(Model.lowest(1, desk.squeeze(0, 1))), due.substring(0, 2));
            Check.same("8, kind " + kind, Rows.hex(Model.lowest(8, desk.squeeze(0, 8))), due.substring(2, 18));
            Check.same("8 more, kind " + kind, Rows.hex(Model.lowest(8, desk.squeeze(0, 8))), due.substring(18, 34));
            Check.same("the rest, kind " + kind, Rows.squeeze(desk, 0, 11), due.substring(34));
        }
    }

    private static void squeezeFirstAndLast() {
        for (int k : new int[] {0, 3}) {
            SpongeDesk desk = new SpongeDesk();
            desk.end(k, 28);
            Check.same("sponge " + k, Rows.squeeze(desk, k, 28), dueOf(0, 0, 28));
        }
    }

    private static void squeezeEndless() {
        for (int kind : Edges.ENDLESS_KINDS) {
            SpongeDesk desk = Edges.deskEnded(kind);
            for (int times = 0; times < 400; times++) {
                desk.squeeze(0, 8);
            }
            Check.same("behind 3200, kind " + kind, Rows.squeeze(desk, 0, 24), dueOf(kind, 3200, 3224));
        }
    }

    private static void squeezeAllChosen() {
        for (int kind : Edges.CHOSEN_KINDS) {
            SpongeDesk desk = Edges.deskEnded(kind, 1000);
            Check.same("kind " + kind, Rows.squeeze(desk, 0, 1000), dueOf(kind, 0, 1000));
            Check.same("left(0)", desk.left(0), 0);
        }
    }

    private static void squeezeJustEnough() {
        for (int kind : Edges.CHOSEN_KINDS) {
            for (int n = 1; n <= 8; n++) {
                SpongeDesk desk = Edges.deskEnded(kind, n);
                String right = "0" + Integer.toHexString(8 * n);
                PlainSponge due = Edges.begun(kind).in(right.substring(right.length() - 2)).in("01").end(4);
                Check.same(n + " of " + n + ", kind " + kind, Rows.hex(Model.lowest(n, desk.squeeze(0, n))),
                    due.out(n));
                Check.same("left(0)", desk.left(0), 0);
            }
        }
        for (int kind = 0; kind < 4; kind++) {
            SpongeDesk desk = Edges.deskEnded(kind);
            int length = Edges.LENGTHS[kind];
            Rows.squeeze(desk, 0, length - 8);
            Check.same("the last eight, kind " + kind, Rows.hex(Model.lowest(8, desk.squeeze(0, 8))),
                dueOf(kind, length - 8, length));
        }
    }

    private static void squeezeTooMany() {
        for (int kind : new int[] {0, 1, 2, 3, 8, 9, 12, 13}) {
            int length = Edges.LENGTHS[kind];
            for (int rest = 1; rest < 8; rest++) {
                SpongeDesk desk = Edges.deskEnded(kind);
                Rows.squeeze(desk, 0, length - rest);
                for (int n = rest + 1; n <= 8; n++) {
                    int size = n;
                    Check.refused(n + " of " + rest + ", kind " + kind, Edges.STATE, () -> desk.squeeze(0, size));
                }
                Check.same("the rest, kind " + kind, Rows.hex(Model.lowest(rest, desk.squeeze(0, rest))),
                    dueOf(kind, length - rest, length));
            }
        }
    }

    private static void squeezeNoneLeft() {
        for (int kind : new int[] {0, 1, 2, 3, 8, 9, 12, 13}) {
            SpongeDesk desk = Edges.deskEnded(kind);
            Rows.squeeze(desk, 0, Edges.LENGTHS[kind]);
            for (int n = 1; n <= 8; n++) {
                int size = n;
                Check.refused(n + " of none, kind " + kind, Edges.STATE, () -> desk.squeeze(0, size));
            }
        }
    }

    private static void squeezeNotEnded() {
        for (int kind = 0; kind < 16; kind++) {
            SpongeDesk desk = Edges.deskWith(kind);
            for (int n = 1; n <= 8; n++) {
                int size = n;
                Check.refused("squeeze(0, " + n + "), kind " + kind, Edges.STATE, () -> desk.squeeze(0, size));
            }
            desk.end(0, Edges.LENGTHS[kind]);
            Check.same("ended, kind " + kind, Rows.squeeze(desk, 0, 24), dueOf(kind, 0, 24));
        }
    }

    private static void squeezeBegunAgain() {
        for (int kind = 0; kind < 16; kind++) {
            SpongeDesk desk = Edges.deskEnded(kind);
            desk.squeeze(0, 1);
            desk.begin(0, kind);
            Check.refused("squeeze(0, 1), kind " + kind, Edges.STATE, () -> desk.squeeze(0, 1));
        }
    }

    private static void squeezeNoSize() {
        for (int kind = 0; kind < 16; kind++) {
            SpongeDesk desk = Edges.deskEnded(kind);
            for (int n : Edges.NO_SIZE) {
                Check.refused("squeeze(0, " + n + "), kind " + kind, Edges.ARGUMENT, () -> desk.squeeze(0, n));
            }
            Check.same("kind " + kind, Rows.squeeze(desk, 0, 24), dueOf(kind, 0, 24));
        }
    }

    private static void squeezeNoSponge() {
        SpongeDesk desk = new SpongeDesk();
        for (int k = 0; k < 4; k++) {
            desk.end(k, 28);
        }
        for (int k : Edges.NO_SPONGE) {
            Check.refused("squeeze(" + k + ", 1)", Edges.INDEX, () -> desk.squeeze(k, 1));
        }
    }

    private static void leftNotEnded() {
        for (int kind = 0; kind < 16; kind++) {
            SpongeDesk desk = Edges.deskWithTape(Rows.of("abc"));
            desk.begin(0, kind);
            Check.same("left(0), kind " + kind, desk.left(0), -1);
            desk.absorb(0);
            Check.same("left(0) behind a tape, kind " + kind, desk.left(0), -1);
        }
    }

    private static void leftEndless() {
        for (int kind : Edges.ENDLESS_KINDS) {
            SpongeDesk desk = Edges.deskEnded(kind);
            Check.same("left(0), kind " + kind, desk.left(0), -1);
            Rows.squeeze(desk, 0, 1200);
            Check.same("left(0) behind 1200, kind " + kind, desk.left(0), -1);
            Check.same("what comes out still, kind " + kind, Rows.squeeze(desk, 0, 8), dueOf(kind, 1200, 1208));
        }
    }

    private static void leftAtFirst() {
        for (int kind = 0; kind < 4; kind++) {
            Check.same("left(0), kind " + kind, Edges.deskEnded(kind).left(0), Edges.LENGTHS[kind]);
        }
        for (int kind : Edges.CHOSEN_KINDS) {
            for (int length : new int[] {1, 2, 255, 256, 1000}) {
                Check.same("left(0), kind " + kind, Edges.deskEnded(kind, length).left(0), length);
            }
        }
    }

    private static void leftLess() {
        for (int kind : new int[] {0, 1, 2, 3, 8, 9, 12, 13}) {
            SpongeDesk desk = Edges.deskEnded(kind);
            int due = Edges.LENGTHS[kind];
            for (int n : new int[] {1, 8, 2, 7}) {
                desk.squeeze(0, n);
                due -= n;
                Check.same("left(0), kind " + kind, desk.left(0), due);
                Check.same("left(0) again, kind " + kind, desk.left(0), due);
            }
        }
    }

    private static void leftNothing() {
        for (int kind : new int[] {0, 1, 2, 3, 8, 9, 12, 13}) {
            SpongeDesk desk = Edges.deskEnded(kind);
            Rows.squeeze(desk, 0, Edges.LENGTHS[kind] - 1);
            Check.same("1 is left, kind " + kind, desk.left(0), 1);
            desk.squeeze(0, 1);
            Check.same("none is left, kind " + kind, desk.left(0), 0);
        }
    }

    private static void leftBehindRefusal() {
        SpongeDesk desk = Edges.deskEnded(8, 3);
        Check.refused("squeeze(0, 4)", Edges.STATE, () -> desk.squeeze(0, 4));
        Check.refused("squeeze(0, 9)", Edges.ARGUMENT, () -> desk.squeeze(0, 9));
        Check.same("left(0)", desk.left(0), 3);
        desk.squeeze(0, 3);
        Check.refused("squeeze(0, 1)", Edges.STATE, () -> desk.squeeze(0, 1));
        Check.same("left(0), none", desk.left(0), 0);
    }

    private static void leftBegunAgain() {
        for (int kind : new int[] {0, 1, 2, 3, 8, 9, 12, 13}) {
            SpongeDesk desk = Edges.deskEnded(kind);
            desk.squeeze(0, 1);
            desk.begin(0, kind);
            Check.same("left(0), kind " + kind, desk.left(0), -1);
        }
    }

    private static void leftFirstAndLast() {
        for (int k : new int[] {0, 3}) {
            SpongeDesk desk = new SpongeDesk();
            desk.end(k, 28);
            for (int other = 0; other < 4; other++) {
                Check.same("left(" + other + ")", desk.left(other), other == k ? 28 : -1);
            }
        }
    }

    private static void leftNoSponge() {
        SpongeDesk desk = new SpongeDesk();
        for (int k : Edges.NO_SPONGE) {
            Check.refused("left(" + k + ")", Edges.INDEX, () -> desk.left(k));
        }
    }

    private static void copyToItselfComingIn() {
        for (int kind = 0; kind < 16; kind++) {
            SpongeDesk desk = Edges.deskWithTape(Rows.odd(50, kind));
            desk.begin(2, kind);
            desk.absorb(2);
            desk.copy(2, 2);
            Check.same("kind(2)", desk.kind(2), kind);
            Check.same("absorb(2)", desk.absorb(2), 100);
            desk.end(2, Edges.LENGTHS[kind]);
            byte[] row = Edges.ofTape(kind, Rows.odd(50, kind));
            Check.same("kind " + kind, Rows.squeeze(desk, 2, 24),
                Edges.ended(Edges.begun(kind).in(row).in(row), kind).out(24));
        }
    }

    private static void copyToItselfComingOut() {
        for (int kind = 0; kind < 16; kind++) {
            SpongeDesk desk = Edges.deskEnded(kind);
            desk.squeeze(0, 5);
            int left = desk.left(0);
            desk.copy(0, 0);
            Check.same("left(0)", desk.left(0), left);
            Check.same("kind(0)", desk.kind(0), kind + 16);
            Check.same("kind " + kind, Rows.squeeze(desk, 0, 20), dueOf(kind, 5, 25));
        }
    }

    private static void copyComingIn() {
        for (int kind = 0; kind < 16; kind++) {
            SpongeDesk desk = Edges.deskWithTape(Rows.odd(50, kind));
            desk.begin(2, kind);
            desk.absorb(2);
            desk.copy(1, 2);
            desk.absorb(1);
            desk.end(1, Edges.LENGTHS[kind]);
            byte[] row = Edges.ofTape(kind, Rows.odd(50, kind));
            Check.same("kind " + kind, Rows.squeeze(desk, 1, 24),
                Edges.ended(Edges.begun(kind).in(row).in(row), kind).out(24));
        }
    }

    private static void copyAtTheWidth() {
        for (int kind = 0; kind < 12; kind++) {
            int w = Edges.WIDTHS[kind];
            for (int size = w - 1; size <= w + 1; size++) {
                byte[] row = Rows.odd(size, kind);
                SpongeDesk desk = Edges.deskWithTape(row);
                desk.begin(0, kind);
                desk.absorb(0);
                desk.copy(3, 0);
                desk.bytes(3, 2, 0x6261);
                desk.end(3, Edges.LENGTHS[kind]);
                Check.same("kind " + kind + " behind " + size, Rows.squeeze(desk, 3, 24),
                    Edges.ended(Edges.begun(kind).in(row).in("6162"), kind).out(24));
            }
        }
    }

    private static void copyComingOut() {
        for (int kind = 0; kind < 16; kind++) {
            SpongeDesk desk = Edges.deskEnded(kind);
            desk.squeeze(0, 7);
            desk.copy(3, 0);
            Check.same("the copy, kind " + kind, Rows.squeeze(desk, 3, 20), dueOf(kind, 7, 27));
            Check.same("the one copied, kind " + kind, Rows.squeeze(desk, 0, 20), dueOf(kind, 7, 27));
        }
    }

    private static void copyTheCount() {
        for (int kind = 0; kind < 16; kind++) {
            SpongeDesk desk = Edges.deskWithTape(Rows.of("abc"));
            desk.begin(0, kind);
            desk.absorb(0);
            desk.absorb(1);
            desk.absorb(1);
            desk.copy(1, 0);
            Check.same("the copy, kind " + kind, desk.absorb(1), 6);
            Check.same("the one copied, kind " + kind, desk.absorb(0), 6);
        }
    }

    private static void copyKindAndLeft() {
        for (int kind = 0; kind < 16; kind++) {
            SpongeDesk desk = Edges.deskWith(kind);
            desk.copy(1, 0);
            Check.same("kind(1) before the end", desk.kind(1), kind);
            Check.same("left(1) before the end", desk.left(1), -1);
            desk.end(0, Edges.LENGTHS[kind]);
            desk.squeeze(0, 3);
            desk.copy(2, 0);
            Check.same("kind(2) behind the end", desk.kind(2), kind + 16);
            Check.same("left(2) behind the end", desk.left(2),
                Edges.LENGTHS[kind] == 0 ? -1 : Edges.LENGTHS[kind] - 3);
        }
    }

    private static void copyNoneLeft() {
        SpongeDesk desk = Edges.deskEnded(13, 2);
        desk.squeeze(0, 2);
        desk.copy(3, 0);
        Check.same("left(3)", desk.left(3), 0);
        Check.refused("squeeze(3, 1)", Edges.STATE, () -> desk.squeeze(3, 1));
        Check.same("kind(3)", desk.kind(3), 29);
    }

    private static void copyOverEnded() {
        for (int kind = 0; kind < 16; kind++) {
            SpongeDesk desk = Edges.deskWith(kind);
            desk.end(1, 28);
            desk.squeeze(1, 3);
            desk.copy(1, 0);
            Check.same("kind(1)", desk.kind(1), kind);
            Check.same("left(1)", desk.left(1), -1);
            Check.refused("squeeze(1, 1)", Edges.STATE, () -> desk.squeeze(1, 1));
            Check.same("absorb(1)", desk.absorb(1), 0);
        }
    }

    private static void copyWhatCameFirst() {
        for (int kind = 6; kind < 12; kind++) {
            SpongeDesk desk = new SpongeDesk();
            SpongeDesk due = new SpongeDesk();
            for (int which = 0; which < 3; which++) {
                Rows.let(desk, which, Rows.odd(20, which));
                Rows.let(due, which, Rows.odd(20, which));
            }
            desk.begin(0, kind);
            for (int which = 0; which < 3; which++) {
                Rows.let(desk, which, Rows.odd(21, which));
            }
            desk.copy(1, 0);
            desk.end(1, Edges.LENGTHS[kind]);
            Check.same("kind " + kind, Rows.squeeze(desk, 1, 24), Edges.madeOfTape(due, kind));
        }
    }

    private static void copyApartComingIn() {
        for (int kind = 0; kind < 12; kind++) {
            SpongeDesk desk = Edges.deskWith(kind);
            desk.bytes(0, 2, 0x6261);
            desk.copy(1, 0);
            Check.same("one goes on", desk.bytes(0, 1, 'c'), 3);
            Check.same("so does the copy", desk.bytes(1, 2, 0x6564), 4);
            desk.end(0, Edges.LENGTHS[kind]);
            Check.same("the copy has not ended", desk.kind(1), kind);
            desk.end(1, Edges.LENGTHS[kind]);
            Check.same("one, kind " + kind, Rows.squeeze(desk, 0, 24),
                Edges.ended(Edges.begun(kind).in("616263"), kind).out(24));
            Check.same("the copy, kind " + kind, Rows.squeeze(desk, 1, 24),
                Edges.ended(Edges.begun(kind).in("61626465"), kind).out(24));
        }
    }

    private static void copyApartComingOut() {
        for (int kind = 4; kind < 16; kind++) {
            SpongeDesk desk = Edges.deskEnded(kind);
            desk.squeeze(0, 2);
            desk.copy(1, 0);
            Rows.squeeze(desk, 1, 300);
            int left = Edges.LENGTHS[kind] == 0 ? -1 : 998;
            Check.same("left(0), kind " + kind, desk.left(0), left);
            Check.same("one, kind " + kind, Rows.squeeze(desk, 0, 24), dueOf(kind, 2, 26));
            Check.same("the copy, kind " + kind, Rows.squeeze(desk, 1, 24), dueOf(kind, 302, 326));
        }
    }

    private static void copyEachToEach() {
        for (int k = 0; k < 4; k++) {
            for (int i = 0; i < 4; i++) {
                SpongeDesk desk = new SpongeDesk();
                for (int each = 0; each < 4; each++) {
                    desk.begin(each, 4 + each);
                }
                desk.copy(k, i);
                for (int each = 0; each < 4; each++) {
                    Check.same("copy(" + k + ", " + i + "): " + each, desk.kind(each), 4 + (each == k ? i : each));
                }
            }
        }
    }

    private static void copyNoTarget() {
        SpongeDesk desk = Edges.deskWith(5);
        for (int k : Edges.NO_SPONGE) {
            Check.refused("copy(" + k + ", 0)", Edges.INDEX, Check.done(() -> desk.copy(k, 0)));
            Check.refused("copy(" + k + ", 3)", Edges.INDEX, Check.done(() -> desk.copy(k, 3)));
        }
        for (int k = 0; k < 4; k++) {
            Check.same("kind(" + k + ")", desk.kind(k), k == 0 ? 5 : 0);
        }
    }

    private static void copyNoSource() {
        SpongeDesk desk = Edges.deskWith(5);
        for (int i : Edges.NO_SPONGE) {
            Check.refused("copy(0, " + i + ")", Edges.INDEX, Check.done(() -> desk.copy(0, i)));
            Check.refused("copy(3, " + i + ")", Edges.INDEX, Check.done(() -> desk.copy(3, i)));
        }
        for (int k = 0; k < 4; k++) {
            Check.same("kind(" + k + ")", desk.kind(k), k == 0 ? 5 : 0);
        }
    }

    private static void copyNeither() {
        SpongeDesk desk = new SpongeDesk();
        for (int k : Edges.NO_SPONGE) {
            Check.refused("copy(" + k + ", " + k + ")", Edges.INDEX, Check.done(() -> desk.copy(k, k)));
        }
    }

    private static void kindBefore() {
        for (int kind = 0; kind < 16; kind++) {
            SpongeDesk desk = Edges.deskWithTape(Rows.of("abc"));
            desk.begin(0, kind);
            Check.same("begun", desk.kind(0), kind);
            desk.absorb(0);
            Check.same("coming in", desk.kind(0), kind);
        }
    }

    private static void kindBehind() {
        for (int kind = 0; kind < 16; kind++) {
            SpongeDesk desk = Edges.deskEnded(kind);
            Check.same("ended", desk.kind(0), kind + 16);
            desk.squeeze(0, 8);
            Check.same("coming out", desk.kind(0), kind + 16);
        }
    }

    private static void kindNoneLeft() {
        for (int kind : new int[] {0, 1, 2, 3, 8, 9, 12, 13}) {
            SpongeDesk desk = Edges.deskEnded(kind);
            Rows.squeeze(desk, 0, Edges.LENGTHS[kind]);
            Check.same("kind(0)", desk.kind(0), kind + 16);
        }
    }

    private static void kindOfBothEmpty() {
        for (int kind = 6; kind < 8; kind++) {
            SpongeDesk desk = Edges.deskWith(kind);
            Check.same("before the end", desk.kind(0), kind);
            desk.end(0, 0);
            Check.same("behind the end", desk.kind(0), kind + 16);
        }
    }

    private static void kindBegunAgain() {
        for (int kind = 0; kind < 16; kind++) {
            SpongeDesk desk = Edges.deskEnded(kind);
            desk.begin(0, 15 - kind);
            Check.same("kind(0)", desk.kind(0), 15 - kind);
        }
    }

    private static void kindFirstAndLast() {
        for (int k : new int[] {0, 3}) {
            SpongeDesk desk = new SpongeDesk();
            desk.begin(k, 9);
            for (int other = 0; other < 4; other++) {
                Check.same("kind(" + other + ")", desk.kind(other), other == k ? 9 : 0);
            }
        }
    }

    private static void kindNoSponge() {
        SpongeDesk desk = new SpongeDesk();
        for (int k : Edges.NO_SPONGE) {
            Check.refused("kind(" + k + ")", Edges.INDEX, () -> desk.kind(k));
        }
    }

    private static void sameWithItself() {
        for (int kind : new int[] {3, 5, 8, 15}) {
            SpongeDesk desk = Edges.deskEnded(kind);
            for (int n = 1; n <= 64; n++) {
                Check.yes("same(0, 0, " + n + "), kind " + kind, desk.same(0, 0, n));
            }
            Check.same("nothing came out, kind " + kind, Rows.squeeze(desk, 0, 64), dueOf(kind, 0, 64));
        }
    }

    private static SpongeDesk alike() {
        SpongeDesk desk = Edges.deskWith(1);
        desk.begin(1, 1);
        desk.bytes(0, 8, ALIKE);
        desk.bytes(1, 8, ALIKE_TOO);
        desk.end(0, 32);
        desk.end(1, 32);
        return desk;
    }

    private static void sameUpToTheSeventh() {
        SpongeDesk desk = alike();
        for (int n = 1; n <= 32; n++) {
            Check.same("same(0, 1, " + n + ")", (Object) desk.same(0, 1, n), (Object) (n <= 7));
        }
    }

    private static void sameOfTheNext() {
        SpongeDesk desk = alike();
        for (int gone = 1; gone <= 7; gone++) {
            desk.squeeze(0, 1);
            desk.squeeze(1, 1);
            for (int n = 1; n <= 9; n++) {
                Check.same(n + " behind " + gone, (Object) desk.same(0, 1, n), (Object) (n + gone <= 7));
            }
        }
    }

    private static void sameOfOne() {
        SpongeDesk desk = alike();
        Check.yes("the first bytes", desk.same(0, 1, 1));
        desk.squeeze(0, 7);
        desk.squeeze(1, 7);
        Check.no("the eighth bytes", desk.same(0, 1, 1));
    }

    private static void sameOf64() {
        SpongeDesk desk = Edges.deskEnded(4);
        desk.begin(1, 4);
        desk.end(1, 0);
        desk.begin(2, 4);
        desk.bytes(2, 1, 0);
        desk.end(2, 0);
        Check.yes("of the same message", desk.same(0, 1, 64));
        Check.no("of a message with one byte 0 more", desk.same(0, 2, 64));
    }

    private static void sameOverTheRim() {
        for (int kind = 4; kind < 16; kind++) {
            int w = Edges.WIDTHS[kind];
            for (int before : new int[] {63, 32, 1, 0}) {
                SpongeDesk desk = Edges.deskEnded(kind);
                Rows.squeeze(desk, 0, w - before);
                desk.copy(1, 0);
                Check.yes("kind " + kind + ", " + before + " before the rim", desk.same(0, 1, 64));
                desk.squeeze(1, 1);
                Check.no("kind " + kind + ", one further", desk.same(0, 1, 64));
                Check.same("kind " + kind, Rows.squeeze(desk, 0, 70), dueOf(kind, w - before, w - before + 70));
            }
        }
    }

    /** Two places of one endless row from which on two bytes are alike: found in the row itself. */
    private static void sameAtOtherPlaces() {
        String row = dueOf(4, 0, 1000);
        for (int one = 0; one < 997; one++) {
            for (int other = one + 1; other < 997; other++) {
                if (row.startsWith(row.substring(2 * one, 2 * one + 4), 2 * other)) {
                    sameFrom(4, one, row, 4, other, row);
                }
            }
        }
    }

    /** The last byte of a width and the one behind it, alike with two bytes anywhere in another row. */
    private static void sameByChanceOverTheRim() {
        for (int kind = 4; kind < 16; kind++) {
            String row = dueOf(kind, 0, 1000);
            for (int otherKind = kind + 1; otherKind < 16; otherKind++) {
                String otherRow = dueOf(otherKind, 0, 1000);
                for (int rim = Edges.WIDTHS[kind]; rim < 997; rim += Edges.WIDTHS[kind]) {
                    int other = placeOf(row.substring(2 * rim - 2, 2 * rim + 2), otherRow);
                    if (other >= 0) {
                        sameFrom(kind, rim - 1, row, otherKind, other, otherRow);
                    }
                }
            }
        }
    }

    private static int placeOf(String digits, String row) {
        for (int place = 0; place < 997; place++) {
            if (row.startsWith(digits, 2 * place)) {
                return place;
            }
        }
        return -1;
    }

    private static void sameFrom(int kind, int place, String row, int otherKind, int otherPlace, String otherRow) {
        SpongeDesk desk = Edges.deskEnded(kind);
        desk.begin(1, otherKind);
        desk.end(1, Edges.LENGTHS[otherKind]);
        Rows.skip(desk, 0, place);
        Rows.skip(desk, 1, otherPlace);
        for (int n = 1; n <= 3; n++) {
            boolean due = otherRow.startsWith(row.substring(2 * place, 2 * (place + n)), 2 * otherPlace);
            String what = n + " of kind " + kind + " from " + place + ", kind " + otherKind + " from " + otherPlace;
            Check.same(what, (Object) desk.same(0, 1, n), (Object) due);
            Check.same(what + ", the other way", (Object) desk.same(1, 0, n), (Object) due);
        }
    }

    private static void sameOfOtherKinds() {
        SpongeDesk desk = Edges.deskEnded(6);
        desk.begin(1, 4);
        desk.end(1, 0);
        desk.begin(2, 5);
        desk.end(2, 0);
        Check.yes("6 and 4, of nothing", desk.same(0, 1, 64));
        Check.no("6 and 5", desk.same(0, 2, 64));
    }

    private static void sameBothOrders() {
        SpongeDesk desk = alike();
        desk.copy(3, 0);
        Check.yes("same(0, 3, 32)", desk.same(0, 3, 32));
        Check.yes("same(3, 0, 32)", desk.same(3, 0, 32));
        Check.no("same(0, 1, 8)", desk.same(0, 1, 8));
        Check.no("same(1, 0, 8)", desk.same(1, 0, 8));
        Check.yes("same(1, 0, 7)", desk.same(1, 0, 7));
    }

    private static void sameOneFurther() {
        SpongeDesk desk = Edges.deskEnded(5);
        desk.copy(1, 0);
        desk.squeeze(1, 1);
        Check.no("the one is further by a byte", desk.same(0, 1, 1));
        desk.squeeze(0, 1);
        Check.yes("so is the other", desk.same(0, 1, 64));
    }

    private static void sameTakesNothing() {
        for (int kind = 0; kind < 16; kind++) {
            SpongeDesk desk = Edges.deskEnded(kind);
            desk.copy(1, 0);
            int left = desk.left(0);
            for (int n : new int[] {1, 28, 28}) {
                Check.yes("same(0, 1, " + n + ")", desk.same(0, 1, n));
            }
            Check.same("left(0), kind " + kind, desk.left(0), left);
            Check.same("left(1), kind " + kind, desk.left(1), left);
            Check.same("sponge 0, kind " + kind, Rows.squeeze(desk, 0, 28), dueOf(kind, 0, 28));
            Check.same("sponge 1, kind " + kind, Rows.squeeze(desk, 1, 28), dueOf(kind, 0, 28));
        }
    }

    private static void sameTakesNothingIfFalse() {
        SpongeDesk desk = alike();
        String due = new PlainSponge(136).in(Model.lowest(8, ALIKE)).end(6).out(32);
        String dueToo = new PlainSponge(136).in(Model.lowest(8, ALIKE_TOO)).end(6).out(32);
        Check.no("same(0, 1, 32)", desk.same(0, 1, 32));
        Check.no("same(0, 1, 8)", desk.same(0, 1, 8));
        Check.same("left(0)", desk.left(0), 32);
        Check.same("left(1)", desk.left(1), 32);
        Check.same("sponge 0", Rows.squeeze(desk, 0, 32), due);
        Check.same("sponge 1", Rows.squeeze(desk, 1, 32), dueToo);
    }

    private static void sameJustEnough() {
        SpongeDesk desk = Edges.deskEnded(3);
        Check.yes("64 of 64", desk.same(0, 0, 64));
        desk.squeeze(0, 8);
        Check.yes("56 of 56", desk.same(0, 0, 56));
        Rows.squeeze(desk, 0, 55);
        Check.yes("1 of 1", desk.same(0, 0, 1));
        SpongeDesk chosen = Edges.deskEnded(8, 64);
        chosen.copy(1, 0);
        Check.yes("64 of 64, chosen", chosen.same(0, 1, 64));
    }

    private static SpongeDesk allEnded() {
        SpongeDesk desk = new SpongeDesk();
        for (int k = 0; k < 4; k++) {
            desk.begin(k, 4);
            desk.end(k, 0);
        }
        return desk;
    }

    private static void sameNoFirst() {
        SpongeDesk desk = allEnded();
        for (int k : Edges.NO_SPONGE) {
            Check.refused("same(" + k + ", 0, 1)", Edges.INDEX, () -> desk.same(k, 0, 1));
            Check.refused("same(" + k + ", 3, 64)", Edges.INDEX, () -> desk.same(k, 3, 64));
            Check.refused("same(" + k + ", " + k + ", 1)", Edges.INDEX, () -> desk.same(k, k, 1));
        }
        Check.yes("same(3, 0, 64)", desk.same(3, 0, 64));
    }

    private static void sameNoSecond() {
        SpongeDesk desk = allEnded();
        for (int i : Edges.NO_SPONGE) {
            Check.refused("same(0, " + i + ", 1)", Edges.INDEX, () -> desk.same(0, i, 1));
            Check.refused("same(3, " + i + ", 64)", Edges.INDEX, () -> desk.same(3, i, 64));
        }
        Check.yes("same(0, 3, 64)", desk.same(0, 3, 64));
    }

    private static void sameNoSize() {
        SpongeDesk desk = allEnded();
        for (int n : new int[] {0, 65, -1, -64, 66, 128, 257, Integer.MIN_VALUE, Integer.MAX_VALUE}) {
            Check.refused("same(0, 1, " + n + ")", Edges.ARGUMENT, () -> desk.same(0, 1, n));
            Check.refused("same(0, 0, " + n + ")", Edges.ARGUMENT, () -> desk.same(0, 0, n));
        }
        Check.yes("same(0, 1, 1)", desk.same(0, 1, 1));
        Check.yes("same(0, 1, 64)", desk.same(0, 1, 64));
    }

    /** Sponge 0 has ended, 1 and 2 have not. */
    private static void sameNotEnded(int k, int i) {
        for (int kind = 0; kind < 16; kind++) {
            SpongeDesk desk = Edges.deskEnded(kind);
            desk.begin(1, kind);
            desk.begin(2, kind);
            Check.refused("same, kind " + kind, Edges.STATE, () -> desk.same(k, i, 1));
            Check.refused("same, kind " + kind, Edges.STATE, () -> desk.same(k, i, 64));
            desk.end(1, Edges.LENGTHS[kind]);
            desk.end(2, Edges.LENGTHS[kind]);
            Check.yes("when they have, kind " + kind, desk.same(k, i, 28));
        }
    }

    /** Sponge 0 is endless, 1 has an end. */
    private static void sameTooMany(int k, int i) {
        SpongeDesk desk = Edges.deskEnded(4);
        desk.begin(1, 8);
        desk.end(1, 63);
        for (int left = 63; left >= 1; left--) {
            int more = left + 1;
            Check.refused(more + " of " + left, Edges.STATE, () -> desk.same(k, i, more));
            Check.same(left + " of " + left, (Object) desk.same(k, i, left), (Object) (k == i));
            desk.squeeze(1, 1);
        }
    }

    private static void sameNoneLeft() {
        SpongeDesk desk = Edges.deskEnded(9, 1);
        desk.squeeze(0, 1);
        desk.begin(1, 4);
        desk.end(1, 0);
        Check.refused("same(0, 0, 1)", Edges.STATE, () -> desk.same(0, 0, 1));
        Check.refused("same(0, 1, 1)", Edges.STATE, () -> desk.same(0, 1, 1));
        Check.refused("same(1, 0, 1)", Edges.STATE, () -> desk.same(1, 0, 1));
    }
}
