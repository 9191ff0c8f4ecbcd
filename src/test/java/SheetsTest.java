/** Promises 37 to 43: sheets. What is due is worked out by hand from the document. */
public final class SheetsTest {
    private static final int BAD = -1, NOT = -2, NONE = -4, NULL = -11, CAST = -12, INDEX = -13, SIZE = -14;
    private static final int LOW = Integer.MIN_VALUE, HIGH = Integer.MAX_VALUE;
    private static final Check c = new Check();

    public static void main(String[] args) {
        delays();
        delaysRefused();
        film();
        seen();
        sheetAndDrop();
        item();
        lanes();
        copy();
        copyOverlapping();
        c.end();
    }

    private static void put(NineLamps x, int sheet, int lane, int from, long... items) {
        for (int i = 0; i < items.length; i++) {
            c.due("42 item", x.item(sheet, lane, from + i, items[i]), 1);
        }
    }

    private static void delays() {
        for (int lane = 0; lane <= 3; lane++) {
            NineLamps x = Check.with("pr,pr,pr", "");
            x.sheet(lane, lane, 5);
            put(x, lane, lane, 2, 9, -7, 1);
            c.due("37 delays(1, ..)", x.delays(1, lane, lane, 2), 3);
            c.due("37 to 0", Check.delay(x, 1, 0), 9);
            c.due("37 to 2", Check.delay(x, 1, 2), 1);
            c.due("37 not of another one", Check.delay(x, 0, 2), 1);
        }
        NineLamps x = Check.with("pr", "");
        x.sheet(0, 0, 1);
        c.due("37 one alone: its item counts for nothing", x.delays(0, 0, 0, 0), 1);
    }

    private static void delaysRefused() {
        NineLamps x = Check.with("pr,pr,pr", "");
        x.sheet(0, 2, 4);
        put(x, 0, 2, 0, 3, 4, 10, 0);
        c.due("37 NOT: 10", x.delays(0, 0, 2, 0), NOT);
        c.due("37 NOT: nothing is changed", Check.delay(x, 0, 1), 1);
        c.due("37 NOT: 0", x.delays(0, 0, 2, 1), NOT);
        put(x, 0, 2, 0, 10, 4, 4);
        c.due("37 NOT: 10 to 0", x.delays(1, 0, 2, 0), NOT);
        put(x, 0, 2, 0, 3, 4, 10);
        c.due("37 its own 10 counts for nothing", x.delays(2, 0, 2, 0), 3);
        c.due("37 INDEX", x.delays(0, 0, 2, 2), INDEX);
        for (int from : new int[] {-1, 4, LOW, HIGH}) {
            c.due("37 from " + from, x.delays(0, 0, 2, from), INDEX);
        }
        c.due("37 CAST ahead of INDEX", x.delays(0, 0, 3, 9), CAST);
        c.due("37 NULL ahead of CAST", x.delays(0, 1, 3, 9), NULL);
        for (int v : new int[] {-1, 4, LOW, HIGH}) {
            c.due("37 rock " + v, x.delays(v, 1, 0, 0), BAD);
            c.due("37 sheet " + v, x.delays(0, v, 0, 0), BAD);
            c.due("37 lane " + v, x.delays(0, 1, v, 0), BAD);
        }
        c.due("37 rock 3", x.delays(3, 0, 2, 0), BAD);
        x.sheet(3, 3, 3);
        put(x, 3, 3, 0, 1, (1L << 32) + 1, 1);
        c.due("37 NOT: a great long", x.delays(0, 3, 3, 0), NOT);
        put(x, 3, 3, 1, -1L);
        c.due("37 NOT: below 0", x.delays(0, 3, 3, 0), NOT);
        x.sheet(3, 3, 2);
        c.due("37 INDEX: shorter than all", x.delays(0, 3, 3, 0), INDEX);
    }

    private static void film() {
        NineLamps x = Check.with("pr,pg,pr", "a0lo");
        x.dark(2, 0, 1);
        x.sheet(1, 1, 5);
        put(x, 1, 1, 0, 7, 7, 7, 7, 7);
        x.minute();
        c.due("38 film", x.film(1, 1, 1), 3);
        Check.rocks(x, "pr,pr,pr,pr,pr");
        // 7, 0, 1, 2, 7 are on the sheet: seen by delays, where only 1 .. 9 may stand.
        c.due("38 0 came to item 1", x.delays(1, 1, 1, 0), 5);
        c.due("38 item 0 stays", Check.delay(x, 1, 0), 7);
        c.due("38 1 came to item 2", Check.delay(x, 1, 2), 1);
        c.due("38 2 came to item 3", Check.delay(x, 1, 3), 2);
        c.due("38 item 4 stays", Check.delay(x, 1, 4), 7);
        c.due("38 item 1 is 0", x.delays(0, 1, 1, 0), NOT);
        c.due("38 INDEX", x.film(1, 1, 1), INDEX);
        c.due("38 INDEX", x.film(1, 1, -1), INDEX);
        c.due("38 INDEX", x.film(1, 1, HIGH), INDEX);
        c.due("38 INDEX: nothing came", x.delays(1, 1, 1, 0), 5);
        c.due("38 CAST", x.film(1, 0, 9), CAST);
        c.due("38 NULL", x.film(0, 0, 9), NULL);
        for (int v : new int[] {-1, 4, LOW, HIGH}) {
            c.due("38 sheet " + v, x.film(v, 0, 0), BAD);
            c.due("38 lane " + v, x.film(0, v, 0), BAD);
        }
        x = new NineLamps();
        x.sheet(0, 0, 2);
        c.due("38 none", x.film(0, 0, 2), 0);
        c.due("38 none: above", x.film(0, 0, 3), INDEX);
        c.due("38 none: below 0", x.film(0, 0, -1), INDEX);
        x.sheet(0, 0, 0);
        c.due("38 none on an empty one", x.film(0, 0, 0), 0);
        x.rock(0, 0);
        c.due("38 one on an empty one", x.film(0, 0, 0), INDEX);
    }

    /** 1 shows in minute 0, 0 in minute 5. */
    private static void seen() {
        NineLamps x = Check.with("prd0-5,pg", "a0lo");
        x.sheet(2, 3, 4);
        put(x, 2, 3, 1, 2, 2);
        c.due("39 now", x.seen(2, 3, 1), 0);
        put(x, 2, 3, 1, 2, 1);
        c.due("39 behind 1", x.seen(2, 3, 1), 1);
        put(x, 2, 3, 1, 0, 1);
        c.due("39 behind 6", x.seen(2, 3, 1), 6);
        put(x, 2, 3, 1, 1, 1);
        c.due("39 never", x.seen(2, 3, 1), NONE);
        put(x, 2, 3, 1, 0, (1L << 32) + 1);
        c.due("39 a great long", x.seen(2, 3, 1), NONE);
        put(x, 2, 3, 1, 0, 1);
        x.dark(0, 0, 59);
        c.due("39 behind 60", x.seen(2, 3, 1), 60);
        x.dark(0, 0, 60);
        c.due("39 not behind 60", x.seen(2, 3, 1), NONE);
        c.due("39 nothing is changed", x.count(2), 0);
        for (int from : new int[] {-1, 3, LOW, HIGH}) {
            c.due("39 from " + from, x.seen(2, 3, from), INDEX);
        }
        c.due("39 CAST", x.seen(2, 2, -1), CAST);
        c.due("39 NULL", x.seen(0, 2, -1), NULL);
        for (int v : new int[] {-1, 4, LOW, HIGH}) {
            c.due("39 sheet " + v, x.seen(v, 0, 0), BAD);
            c.due("39 lane " + v, x.seen(0, v, 0), BAD);
        }
        x = new NineLamps();
        x.sheet(0, 0, 2);
        c.due("39 none", x.seen(0, 0, 2), 0);
        c.due("39 none: above", x.seen(0, 0, 3), INDEX);
    }

    private static void sheetAndDrop() {
        NineLamps x = new NineLamps();
        c.due("40 0", x.sheet(0, 0, 0), 0);
        c.due("40 24", x.sheet(3, 3, 24), 24);
        c.due("40 25", x.sheet(1, 0, 25), BAD);
        c.due("40 HIGH", x.sheet(1, 0, HIGH), BAD);
        c.due("40 -1", x.sheet(1, 0, -1), SIZE);
        c.due("40 LOW", x.sheet(1, 0, LOW), SIZE);
        for (int v : new int[] {-1, 4, LOW, HIGH}) {
            c.due("40 sheet " + v, x.sheet(v, 0, -1), BAD);
            c.due("40 lane " + v, x.sheet(0, v, -1), BAD);
            c.due("41 sheet " + v, x.drop(v), BAD);
        }
        c.due("40 refused: nothing", x.drop(1), NULL);
        c.due("40 SIZE: the row stays", x.sheet(3, 0, -1), SIZE);
        c.due("41 24", x.drop(3), 24);
        c.due("41 nothing", x.drop(3), NULL);
        c.due("41 of no item", x.drop(0), 0);
        x.rock(0, 0);
        x.rock(0, 0);
        x.sheet(0, 1, 2);
        put(x, 0, 1, 0, 5, 5);
        x.sheet(0, 1, 2);
        c.due("40 a new row: all are 0", x.delays(0, 0, 1, 0), NOT);
        x.sheet(0, 2, 2);
        c.due("40 of another lane", x.item(0, 1, 0, 1), CAST);
        x.drop(0);
        x.sheet(0, 2, 2);
        c.due("40 a new row where one was dropped: all are 0", x.delays(0, 0, 2, 0), NOT);
    }

    private static void item() {
        NineLamps x = new NineLamps();
        x.sheet(1, 2, 3);
        c.due("42 item 0", x.item(1, 2, 0, Long.MIN_VALUE), 1);
        c.due("42 item 2", x.item(1, 2, 2, Long.MAX_VALUE), 1);
        for (int i : new int[] {-1, 3, 24, LOW, HIGH}) {
            c.due("42 item " + i, x.item(1, 2, i, 0), INDEX);
        }
        c.due("42 CAST", x.item(1, 3, -1, 0), CAST);
        c.due("42 NULL", x.item(0, 3, -1, 0), NULL);
        for (int v : new int[] {-1, 4, LOW, HIGH}) {
            c.due("42 sheet " + v, x.item(v, 0, 0, 0), BAD);
            c.due("42 lane " + v, x.item(0, v, 0, 0), BAD);
        }
        x.sheet(1, 2, 0);
        c.due("42 of none", x.item(1, 2, 0, 0), INDEX);
    }

    /** The lowest bits of a number that has 5 in them, and others above. */
    private static void lanes() {
        int[] bits = {8, 16, 32};
        for (int lane = 0; lane <= 3; lane++) {
            for (int i = 0; i < 3; i++) {
                NineLamps x = Check.with("pr,pr", "");
                x.sheet(0, lane, 2);
                put(x, 0, lane, 1, (1L << bits[i]) + 5);
                c.due("42 lane " + lane + ", bit " + bits[i], x.delays(0, 0, lane, 0), lane <= i ? 2 : NOT);
            }
            NineLamps y = Check.with("pr,pr", "");
            y.sheet(0, lane, 2);
            put(y, 0, lane, 1, 5 - (1L << 62) * 2);
            c.due("42 lane " + lane + ", the sign", y.delays(0, 0, lane, 0), lane <= 2 ? 2 : NOT);
            put(y, 0, lane, 1, lane == 3 ? -251L : 5 + (1L << 8 * (1 << lane) - 1));
            c.due("42 lane " + lane + ", with its sign", y.delays(0, 0, lane, 0), NOT);
        }
    }

    private static void copy() {
        NineLamps x = Check.with("pr,pr,pr,pr", "");
        x.sheet(0, 1, 6);
        x.sheet(1, 1, 5);
        put(x, 0, 1, 0, 1, 2, 3, 4, 5, 6);
        put(x, 1, 1, 0, 9, 9, 9, 9, 9);
        c.due("43 copy", x.copy(0, 2, 1, 1, 2), 2);
        x.delays(0, 1, 1, 0);
        c.due("43 item 1", Check.delay(x, 0, 1), 3);
        c.due("43 item 2", Check.delay(x, 0, 2), 4);
        c.due("43 item 3 stays", Check.delay(x, 0, 3), 9);
        c.due("43 up to the ends", x.copy(0, 1, 1, 0, 5), 5);
        c.due("43 INDEX: from", x.copy(0, 2, 1, 0, 5), INDEX);
        c.due("43 INDEX: to", x.copy(0, 0, 1, 1, 5), INDEX);
        x.delays(0, 1, 1, 0);
        c.due("43 INDEX: nothing came", Check.delay(x, 0, 3), 5);
        c.due("43 none", x.copy(0, 6, 1, 5, 0), 0);
        c.due("43 none: above", x.copy(0, 7, 1, 0, 0), INDEX);
        c.due("43 none: above", x.copy(0, 0, 1, 6, 0), INDEX);
        c.due("43 none: below 0", x.copy(0, -1, 1, 0, 0), INDEX);
        c.due("43 none: below 0", x.copy(0, 0, 1, -1, 0), INDEX);
        for (int v : new int[] {-1, LOW, HIGH}) {
            c.due("43 n " + v, x.copy(0, 0, 1, 0, v), INDEX);
            c.due("43 i " + v, x.copy(0, v, 1, 0, 1), INDEX);
            c.due("43 j " + v, x.copy(0, 0, 1, v, 1), INDEX);
        }
        c.due("43 i and n HIGH", x.copy(0, HIGH, 1, HIGH, HIGH), INDEX);
        x.sheet(2, 2, 5);
        c.due("43 CAST ahead of INDEX", x.copy(0, 0, 2, 0, -1), CAST);
        c.due("43 NULL: to", x.copy(0, 0, 3, 0, -1), NULL);
        c.due("43 NULL: from", x.copy(3, 0, 0, 0, -1), NULL);
        for (int v : new int[] {-1, 4, LOW, HIGH}) {
            c.due("43 from " + v, x.copy(v, 0, 3, 0, 0), BAD);
            c.due("43 to " + v, x.copy(3, 0, v, 0, 0), BAD);
        }
    }

    private static void copyOverlapping() {
        for (int to = 0; to <= 2; to++) {
            NineLamps x = Check.with("pr,pr,pr,pr,pr,pr", "");
            x.sheet(0, 0, 6);
            put(x, 0, 0, 0, 1, 2, 3, 4, 5, 6);
            c.due("43 the same sheet", x.copy(0, 1, 0, to, 4), 4);
            x.delays(0, 0, 0, 0);
            for (int i = 1; i <= 5; i++) {
                int due = i >= to && i < to + 4 ? i - to + 2 : i + 1;
                c.due("43 as if all were taken ahead: to " + to + ", item " + i, Check.delay(x, 0, i), due);
            }
        }
    }
}
