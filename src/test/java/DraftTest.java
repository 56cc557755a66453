/** Promises 1 to 8 and 10: a new object, and the draft and the content. */
public final class DraftTest {
    private static final Checks CHECKS = new Checks();

    public static void main(String[] args) {
        newObject();
        puts();
        putsToTheLimit();
        cuts();
        alters();
        ats();
        mixes();
        digests();
        contents();
        CHECKS.finish("DraftTest");
    }

    private static void newObject() {
        TrustedUpdates x = new TrustedUpdates();
        CHECKS.dueText("a new object", View.of(x),
                "draft 0 0 " + 0x9E3779B9 + "; trusted -1/-1 -1/-1 -1/-1 -1/-1 -1/-1 -1/-1 -1/-1; clock 0; visits 0;"
                        + " installed 0");
        CHECKS.due("digest() of a new object", x.digest(), true);
        CHECKS.due("the digest of no content", x.at(0) | x.at(1) | x.at(2) | x.at(3), 0);
        TrustedUpdates other = new TrustedUpdates();
        other.put(1, 1);
        CHECKS.due("length() beside another object", x.length(), 4);
    }

    private static void puts() {
        TrustedUpdates x = new TrustedUpdates();
        CHECKS.due("put of 8", x.put(0x8877665544332211L, 8), true);
        for (int i = 0; i < 8; i++) {
            CHECKS.due("at(" + i + ")", x.at(i), 0x11 * (i + 1));
        }
        CHECKS.due("put of 1 of more", x.put(-2L, 1), true);
        CHECKS.due("length()", x.length(), 9);
        CHECKS.due("at(8)", x.at(8), 254);
        CHECKS.due("put of 3", x.put(0x0A0B0C0DL, 3), true);
        CHECKS.due("at(9)", x.at(9), 13);
        CHECKS.due("at(11)", x.at(11), 11);
        String before = View.of(x);
        for (int n : new int[] {0, -1, 9, 256, 257, Integer.MIN_VALUE, Integer.MAX_VALUE}) {
            CHECKS.due("put of " + n, x.put(5, n), false);
        }
        CHECKS.dueText("after refused puts", View.of(x), before);
    }

    private static void putsToTheLimit() {
        TrustedUpdates x = new TrustedUpdates();
        for (int i = 0; i < 14; i++) {
            CHECKS.due("put " + i, x.put(i, 8), true);
        }
        CHECKS.due("put to 119", x.put(7, 7), true);
        CHECKS.due("put of 2 at 119", x.put(7, 2), false);
        CHECKS.due("put of 8 at 119", x.put(7, 8), false);
        CHECKS.due("length()", x.length(), 119);
        CHECKS.due("put to 120", x.put(9, 1), true);
        CHECKS.due("put of 1 at 120", x.put(7, 1), false);
        CHECKS.due("length()", x.length(), 120);
        CHECKS.due("at(119)", x.at(119), 9);
    }

    private static void cuts() {
        TrustedUpdates x = new TrustedUpdates();
        CHECKS.due("cut(0) of nothing", x.cut(0), true);
        CHECKS.due("cut(1) of nothing", x.cut(1), false);
        x.put(0x050403020100L, 6);
        CHECKS.due("cut(7) of 6", x.cut(7), false);
        CHECKS.due("cut(-1)", x.cut(-1), false);
        CHECKS.due("cut(MIN)", x.cut(Integer.MIN_VALUE), false);
        CHECKS.due("length()", x.length(), 6);
        CHECKS.due("cut(6) of 6", x.cut(6), true);
        CHECKS.due("length()", x.length(), 6);
        CHECKS.due("cut(4)", x.cut(4), true);
        CHECKS.due("length()", x.length(), 4);
        CHECKS.due("at(3)", x.at(3), 3);
        CHECKS.due("cut(5) of 4", x.cut(5), false);
        x.put(77, 1);
        CHECKS.due("at(4) put anew", x.at(4), 77);
        CHECKS.due("cut(0)", x.cut(0), true);
        CHECKS.due("length()", x.length(), 0);
    }

    private static void alters() {
        TrustedUpdates x = new TrustedUpdates();
        CHECKS.due("alter(0) of nothing", x.alter(0, 1), false);
        x.put(0x030201, 3);
        CHECKS.due("alter(2, 255)", x.alter(2, 255), true);
        CHECKS.due("at(2)", x.at(2), 255);
        CHECKS.due("alter(0, -1)", x.alter(0, -1), true);
        CHECKS.due("at(0)", x.at(0), 255);
        CHECKS.due("alter(1, 0x1234)", x.alter(1, 0x1234), true);
        CHECKS.due("at(1)", x.at(1), 0x34);
        String before = View.of(x);
        for (int i : new int[] {3, -1, 119, 120, Integer.MIN_VALUE, Integer.MAX_VALUE}) {
            CHECKS.due("alter(" + i + ")", x.alter(i, 9), false);
        }
        CHECKS.dueText("after refused alters", View.of(x), before);
    }

    private static void ats() {
        TrustedUpdates x = new TrustedUpdates();
        CHECKS.refused("at(0) of nothing", IndexOutOfBoundsException.class, x, () -> x.at(0));
        x.put(0xFFFEL, 2);
        CHECKS.due("at(0)", x.at(0), 254);
        CHECKS.due("at(1)", x.at(1), 255);
        for (int i : new int[] {2, -1, 120, Integer.MIN_VALUE, Integer.MAX_VALUE}) {
            CHECKS.refused("at(" + i + ")", IndexOutOfBoundsException.class, x, () -> x.at(i));
        }
        x.cut(1);
        CHECKS.refused("at(1) after cut(1)", IndexOutOfBoundsException.class, x, () -> x.at(1));
    }

    private static void mixes() {
        TrustedUpdates x = new TrustedUpdates();
        CHECKS.due("mix(0) of nothing", x.mix(0), 0);
        CHECKS.due("mix(1) of nothing", x.mix(1), 0x9E3779B9);
        CHECKS.due("mix(-1) of nothing", x.mix(-1), -0x9E3779B9);
        x.put(1, 1);
        CHECKS.due("mix(0) of 1", x.mix(0), 0x01000193 ^ 0x01000193 >>> 15);
        x.cut(0);
        x.put(0x7978, 2);
        CHECKS.due("mix(0) of xy", x.mix(0), 2021160513);
        CHECKS.due("mix(7) of xy", x.mix(7), -592860249);
        int[] row = {0x78, 0x79, 255, 0, 128, 1};
        x.put(0x018000FFL, 4);
        for (int s : new int[] {0, 1, 2, 10, 255, 256, -1, Integer.MIN_VALUE, Integer.MAX_VALUE}) {
            CHECKS.due("mix(" + s + ")", x.mix(s), Doc.mix(row, row.length, s));
        }
        CHECKS.due("length() after mixes", x.length(), 6);
    }

    private static void digests() {
        TrustedUpdates x = new TrustedUpdates();
        x.put(0x7A7978, 3);
        x.content();
        int digest = Doc.mix(new int[] {0x78, 0x79, 0x7A}, 3, 0);
        x.cut(1);
        CHECKS.due("digest()", x.digest(), true);
        CHECKS.due("length()", x.length(), 5);
        int[] word = Doc.word(digest);
        for (int i = 0; i < 4; i++) {
            CHECKS.due("byte " + i + " of the digest", x.at(1 + i), word[i]);
        }
        x.cut(0);
        for (int i = 0; i < 29; i++) {
            CHECKS.due("digest " + i, x.digest(), true);
        }
        x.put(1, 1);
        CHECKS.due("digest() at 117", x.digest(), false);
        CHECKS.due("length()", x.length(), 117);
        x.cut(116);
        CHECKS.due("digest() at 116", x.digest(), true);
        CHECKS.due("digest() at 120", x.digest(), false);
        CHECKS.due("length()", x.length(), 120);
    }

    private static void contents() {
        TrustedUpdates x = new TrustedUpdates();
        CHECKS.due("content() of nothing", x.content(), 0);
        x.put(0x0201, 2);
        CHECKS.due("content()", x.content(), 2);
        CHECKS.due("length() after content()", x.length(), 2);
        x.alter(0, 9);
        x.put(3, 1);
        x.digest();
        CHECKS.due("the content is not the draft", x.at(3) << 24 | x.at(4) << 16 | x.at(5) << 8 | x.at(6),
                Doc.mix(new int[] {1, 2}, 2, 0));
        CHECKS.due("content() anew", x.content(), 7);
        x.cut(0);
        CHECKS.due("content() of nothing again", x.content(), 0);
        x.digest();
        CHECKS.due("the digest of no content", x.at(0) | x.at(1) | x.at(2) | x.at(3), 0);
        fullContent();
    }

    private static void fullContent() {
        TrustedUpdates x = new TrustedUpdates();
        for (int i = 0; i < 15; i++) {
            x.put(0x0102030405060708L * (i + 1), 8);
        }
        int digest = x.mix(0);
        CHECKS.due("content() of 120", x.content(), 120);
        x.cut(0);
        x.digest();
        CHECKS.due("the digest of 120", x.at(0) << 24 | x.at(1) << 16 | x.at(2) << 8 | x.at(3), digest);
    }

    private DraftTest() {
    }
}
